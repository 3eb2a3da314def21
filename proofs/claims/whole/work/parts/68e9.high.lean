/-! The reference: high -/
/-- PathProverModel.high(LPathProverModel$Node;LPathProverModel$Instance;)I -/
abbrev mu_m473 : ev_M := (6, (some .int), [], ev_b473)
theorem mu_g473 : mu_good mu_m473 := mu_goodk ev_k473
/-- one less: -1 behind 0 -/
def pI : Nat → Int32
  | 0 => -1
  | m + 1 => nI m
theorem pI_dec : ∀ m, nI m + (-1) = pI m
  | 0 => rfl
  | m + 1 => by
    show nI (m + 1) + (-1) = nI m
    have e : nI m + (1 : Int32) = nI (m + 1) := nI_add _ _
    rw [← e, Int32.add_assoc]
    exact Int32.add_zero _
theorem pI_sub (m : Nat) : nI m - 1 = pI m := (Int32.sub_eq_add_neg _ _).trans (pI_dec m)
/-- the names of a tree are found -/
def nmk (D : MD) (j : Nat) (c : Tre) : Prop := ∃ l, nmo D j l c
theorem nmk.k {D : MD} {j i : Nat} {c : Tre} (h : nmk D j c) (hi : i < tsn c) : nmk D j (tkk c i) := by
  obtain ⟨l, h⟩ := h
  cases l with
  | zero => exact h.elim
  | succ l => exact ⟨l, h.2 i hi⟩
theorem nmk.f {D : MD} {j : Nat} {c : Tre} (h : nmk D j c) (hk : tkd c ∈ [64, 33]) : ¬ fno D j (tns c) = none := by
  obtain ⟨l, h⟩ := h
  cases l with
  | zero => exact h.elim
  | succ l => exact h.1 hk
/-- the part k as it is looked at: behind its mark in a chain -/
def lkp (c : Tre) (k : Nat) : Tre := if tkd c = 66 ∧ 0 < k then tkk (tkk c k) 0 else tkk c k
theorem exw.lk {l k : Nat} {c : Tre} (h : exw (l + 1) c) (hk : k < tsn c) : exw l (lkp c k) ∧ (tkd c = 66 → 0 < k → tsn (tkk c k) = 1) := by
  unfold lkp
  have no : ∀ {ks : List Nat}, tkd c ∈ ks → 66 ∉ ks → ¬ (tkd c = 66 ∧ 0 < k) := fun h1 h2 h3 => h2 (by rw [← h3.1]; exact h1)
  rcases h with h | h | ⟨h1, h2, h3⟩ | ⟨h1, h2, h3, h4⟩ | ⟨h1, h2, h3⟩ | ⟨h1, h2, h3, h4⟩ | ⟨h1, h2, h3, ms, h4, h5⟩
  · rw [h.2] at hk; exact absurd hk (Nat.not_lt_zero _)
  · rw [h.2.1] at hk; exact absurd hk (Nat.not_lt_zero _)
  · have n := no h1 (by decide)
    rw [if_neg n]
    rw [h2] at hk
    have e : k = 0 := by omega
    subst e
    exact ⟨h3, fun a b => absurd ⟨a, b⟩ n⟩
  · have n := no h1 (by decide)
    rw [if_neg n]
    rw [h2] at hk
    have e : k = 0 ∨ k = 1 := by omega
    rcases e with e | e
    · subst e; exact ⟨h3, fun a b => absurd ⟨a, b⟩ n⟩
    · subst e; exact ⟨h4, fun a b => absurd ⟨a, b⟩ n⟩
  · have n := no h1 (by decide)
    rw [if_neg n]
    exact ⟨h3 k hk, fun a b => absurd ⟨a, b⟩ n⟩
  · have n : ¬ (tkd c = 66 ∧ 0 < k) := fun z => by rw [h1] at z; exact absurd z.1 (by decide)
    rw [if_neg n]
    exact ⟨h4 k hk, fun a b => absurd ⟨a, b⟩ n⟩
  · by_cases e : 0 < k
    · rw [if_pos ⟨h1, e⟩]
      have q := h5 k e hk
      exact ⟨q.2.2, fun _ _ => q.2.1⟩
    · have e0 : k = 0 := by omega
      subst e0
      rw [if_neg (fun z => absurd z.2 (Nat.lt_irrefl _))]
      exact ⟨h3, fun _ b => absurd b (Nat.lt_irrefl _)⟩
theorem nmk.p {D : MD} {j k l : Nat} {c : Tre} (h : nmk D j c) (hx : exw (l + 1) c) (hk : k < tsn c) : nmk D j (lkp c k) := by
  have q := (hx.lk hk).2
  unfold lkp
  by_cases e : tkd c = 66 ∧ 0 < k
  · rw [if_pos e]; exact (h.k hk).k (by rw [q e.1 e.2]; exact Nat.one_pos)
  · rw [if_neg e]; exact h.k hk
/-- heights: one more part is looked at -/
def hst (c : Tre) (m : Nat) (h v : Int32) : Int32 := if tkd c = 2 ∧ m + 1 < tsn c ∧ 0 < m then mu_max h v + 1 else mu_max h v
def hgl (c : Tre) (f : Nat → Int32) : Nat → Int32 → Int32
  | 0, h => h
  | m + 1, h => hgl c f m (hst c m h (f m))
/-- the height of an expression -/
def hgt (D : MD) (j : Nat) (hs : Nat → Int32) : Nat → Tre → Int32
  | 0, _ => 0
  | l + 1, c => if tkd c = 33 then 1 else if tkd c = 64 then (match fno D j (tns c) with
      | none => 0
      | some x => if x.2.2 < 0 then 1 else 1 + hs x.2.2.toNatClampNeg)
    else 1 + hgl c (fun k => hgt D j hs l (lkp c k)) (tsn c) 0
/-- the heights that are known -/
def hts (H : mu_H) (D : MD) (hp : Nat) (hs : Nat → Int32) : Prop := oar H D.G 26 100 hp (D.pr 0).length ∧ ∀ i, i < (D.pr 0).length → mu_i H hp i = hs i
theorem hts.ff {H H1 : mu_H} {D : MD} {hp a : Nat} {hs : Nat → Int32} (h : hts H D hp hs) (hf : ffr a H H1) : hts H1 D hp hs := ⟨h.1.ff hf, fun i hi => (hf.1.i (Or.inl h.1.2.1.2.1) (fun z => z.elim (gndl9 h.1.2.1.1) id) i).trans (h.2 i hi)⟩
theorem rp_hgB {Hb H : mu_H} {D : MD} {j d dd q y m : Nat} {c : Tre} {h v : Int32} {Φ : mu_R → Prop} (hr : rms Hb D H) (hn : nd Hb D.G dd q c) (hm : m < tsn c) (hy : mu_TI (mu_D (d + 3)) 473 [.inr (.inr (some 169)), .inr (.inr (some y)), .inr (.inr (some (D.ip j)))] H (fun x H1 => x = v ∧ ffr 0 H H1)) (hnx : ∀ H1, ffr 0 H H1 → mu_W (mu_D (d + 3)) mu_m473 (63, [(4, .inl (pI m)), (3, .inl (hst c m h v)), (2, .inr (.inr (some (D.ip j)))), (1, .inr (.inr (some q))), (0, .inr (.inr (some 169)))], [], H1) Φ) : mu_W (mu_D (d + 3)) mu_m473 (105, [(4, .inl (nI m)), (3, .inl h), (2, .inr (.inr (some (D.ip j)))), (1, .inr (.inr (some q))), (0, .inr (.inr (some 169)))], [.inr (.inr (some y))], H) Φ := by
  obtain ⟨kd1, ⟨is1, nF1, lt1⟩, ⟨st1, sr1, sf1⟩, ⟨n2_1, n3_1, n7_1⟩, nm1, ar1, aq1, aF1, ai1, ⟨al1, am1, ax1⟩, ch1, dp1⟩ := nd.ra (c := c) hn hr.2.1
  have hl := hn.s26
  have eS : nI (tsn c) - (1 : Int32) = nI (tsn c - 1) := by rw [pI_sub, show tsn c = (tsn c - 1) + 1 by omega]; rfl
  refine mw_go mu_g473 (k := 5) (f1 := (112, [(5, .inr (.inr (some y))), (4, .inl (nI m)), (3, .inl h), (2, .inr (.inr (some (D.ip j)))), (1, .inr (.inr (some q))), (0, .inr (.inr (some 169)))], [.inr (.inr (some (D.ip j))), .inr (.inr (some y)), .inr (.inr (some 169)), .inl h], H)) (C := []) rfl trivial ?_
  refine mw_cI (fun _ => rfl) (show mu_is H (some 169) 1 from hr.2.2.1.1) (hy) (fun x9 H9 q9 => ?_)
  obtain ⟨q8, q9⟩ := q9
  rw [q8]
  clear q8
  show mu_W _ mu_m473 (115, [(5, .inr (.inr (some y))), (4, .inl (nI m)), (3, .inl h), (2, .inr (.inr (some (D.ip j)))), (1, .inr (.inr (some q))), (0, .inr (.inr (some 169)))], [.inl v, .inl h], H9) _
  have hr9 := q9.rms hr
  obtain ⟨kd2, ⟨is2, nF2, lt2⟩, ⟨st2, sr2, sf2⟩, ⟨n2_2, n3_2, n7_2⟩, nm2, ar2, aq2, aF2, ai2, ⟨al2, am2, ax2⟩, ch2, dp2⟩ := nd.ra (c := c) hn hr9.2.1
  refine mw_cIe (fun _ => rfl) trivial (mu_max_ok (d := d + 2) h v) ?_
  refine mw_go mu_g473 (k := 3) (f1 := (122, [(3, .inl (mu_max h v)), (5, .inr (.inr (some y))), (4, .inl (nI m)), (2, .inr (.inr (some (D.ip j)))), (1, .inr (.inr (some q))), (0, .inr (.inr (some 169)))], [.inr (.inr (some 1000002)), .inr (.inr (some q))], H9)) (C := []) rfl trivial ?_
  refine mw_cIe (fun _ => rfl) (show mu_is H9 (some q) 18 from is2) (agr.isL (e := d) (j := 2) hn hr9.2.1 (by decide)) ?_
  refine mw_if (P := (if tkd c = 2 then 1 else 0) = 0) (a := 147) (b := 128) (fun _ => rfl) trivial (fun hi3 => ?_) (fun hi3 => ?_)
  · -- 147
    have ek3 : ¬ tkd c = 2 := fun e => by rw [if_pos e] at hi3; exact absurd hi3 (by decide)
    refine mw_go mu_g473 (k := 1) (f1 := (150, [(4, .inl ((nI m) + (-1))), (3, .inl (mu_max h v)), (5, .inr (.inr (some y))), (2, .inr (.inr (some (D.ip j)))), (1, .inr (.inr (some q))), (0, .inr (.inr (some 169)))], [], H9)) (C := []) rfl trivial ?_
    refine mw_fr (f' := (150, [(4, .inl (pI m)), (3, .inl (mu_max h v)), (5, .inr (.inr (some y))), (2, .inr (.inr (some (D.ip j)))), (1, .inr (.inr (some q))), (0, .inr (.inr (some 169)))], [], H9)) (by first | (rw [(pI_dec m)]; done) | (rw [(pI_dec m)]; rfl)) ?_
    refine mw_go mu_g473 (k := 1) (f1 := (63, [(4, .inl (pI m)), (3, .inl (mu_max h v)), (5, .inr (.inr (some y))), (2, .inr (.inr (some (D.ip j)))), (1, .inr (.inr (some q))), (0, .inr (.inr (some 169)))], [], H9)) (C := []) rfl trivial ?_
    have hz := hnx _ q9
    rw [show hst c m h v = mu_max h v from if_neg (fun z => ek3 z.1)] at hz
    refine mw_sub (L' := [(4, .inl (pI m)), (3, .inl (mu_max h v)), (2, .inr (.inr (some (D.ip j)))), (1, .inr (.inr (some q))), (0, .inr (.inr (some 169)))]) (by intro x hx; simp only [List.mem_cons, List.not_mem_nil, or_false] at hx ⊢; rcases hx with rfl | rfl | rfl | rfl | rfl <;> simp) ?_
    exact hz
  · -- 128
    have ek3 : tkd c = 2 := Decidable.byContradiction (fun e => hi3 (if_neg e))
    refine mw_go mu_g473 (k := 3) (f1 := (134, [(3, .inl (mu_max h v)), (5, .inr (.inr (some y))), (4, .inl (nI m)), (2, .inr (.inr (some (D.ip j)))), (1, .inr (.inr (some q))), (0, .inr (.inr (some 169)))], [.inl (mu_i H9 q 2), .inl (nI m)], H9)) (C := [mu_is H9 (some q) 18]) rfl (show mu_is H9 (some q) 18 from is2) ?_
    refine mw_fr (f' := (134, [(3, .inl (mu_max h v)), (5, .inr (.inr (some y))), (4, .inl (nI m)), (2, .inr (.inr (some (D.ip j)))), (1, .inr (.inr (some q))), (0, .inr (.inr (some 169)))], [.inl (nI (tsn c)), .inl (nI m)], H9)) (by first | (rw [n2_2]; done) | (rw [n2_2]; rfl)) ?_
    refine mw_go mu_g473 (k := 2) (f1 := (136, [(3, .inl (mu_max h v)), (5, .inr (.inr (some y))), (4, .inl (nI m)), (2, .inr (.inr (some (D.ip j)))), (1, .inr (.inr (some q))), (0, .inr (.inr (some 169)))], [.inl ((nI (tsn c)) - (1 : Int32)), .inl (nI m)], H9)) (C := []) rfl trivial ?_
    refine mw_fr (f' := (136, [(3, .inl (mu_max h v)), (5, .inr (.inr (some y))), (4, .inl (nI m)), (2, .inr (.inr (some (D.ip j)))), (1, .inr (.inr (some q))), (0, .inr (.inr (some 169)))], [.inl (nI (tsn c - 1)), .inl (nI m)], H9)) (by first | (rw [eS]; done) | (rw [eS]; rfl)) ?_
    refine mw_if (P := (nI m) < (nI (tsn c - 1))) (a := 139) (b := 147) (fun _ => rfl) trivial (fun h2 => ?_) (fun h2 => ?_)
    · -- 139
      have g1 : m + 1 < tsn c := by have := nI_below (by omega) (by omega) h2; omega
      refine mw_go mu_g473 (k := 1) (f1 := (141, [(3, .inl (mu_max h v)), (5, .inr (.inr (some y))), (4, .inl (nI m)), (2, .inr (.inr (some (D.ip j)))), (1, .inr (.inr (some q))), (0, .inr (.inr (some 169)))], [.inl (nI m)], H9)) (C := []) rfl trivial ?_
      refine mw_if (P := 0 < (nI m)) (a := 144) (b := 147) (fun _ => rfl) trivial (fun h3 => ?_) (fun h3 => ?_)
      · -- 144
        refine mw_go mu_g473 (k := 2) (f1 := (150, [(4, .inl ((nI m) + (-1))), (3, .inl ((mu_max h v) + 1)), (5, .inr (.inr (some y))), (2, .inr (.inr (some (D.ip j)))), (1, .inr (.inr (some q))), (0, .inr (.inr (some 169)))], [], H9)) (C := []) rfl trivial ?_
        refine mw_fr (f' := (150, [(4, .inl (pI m)), (3, .inl ((mu_max h v) + 1)), (5, .inr (.inr (some y))), (2, .inr (.inr (some (D.ip j)))), (1, .inr (.inr (some q))), (0, .inr (.inr (some 169)))], [], H9)) (by first | (rw [(pI_dec m)]; done) | (rw [(pI_dec m)]; rfl)) ?_
        refine mw_go mu_g473 (k := 1) (f1 := (63, [(4, .inl (pI m)), (3, .inl ((mu_max h v) + 1)), (5, .inr (.inr (some y))), (2, .inr (.inr (some (D.ip j)))), (1, .inr (.inr (some q))), (0, .inr (.inr (some 169)))], [], H9)) (C := []) rfl trivial ?_
        have hz := hnx _ q9
        rw [show hst c m h v = (mu_max h v) + 1 from if_pos ⟨ek3, g1, by have := nI_below (a := 0) (by omega) (by omega) h3; omega⟩] at hz
        refine mw_sub (L' := [(4, .inl (pI m)), (3, .inl ((mu_max h v) + 1)), (2, .inr (.inr (some (D.ip j)))), (1, .inr (.inr (some q))), (0, .inr (.inr (some 169)))]) (by intro x hx; simp only [List.mem_cons, List.not_mem_nil, or_false] at hx ⊢; rcases hx with rfl | rfl | rfl | rfl | rfl <;> simp) ?_
        exact hz
      · -- 147
        refine mw_go mu_g473 (k := 1) (f1 := (150, [(4, .inl ((nI m) + (-1))), (3, .inl (mu_max h v)), (5, .inr (.inr (some y))), (2, .inr (.inr (some (D.ip j)))), (1, .inr (.inr (some q))), (0, .inr (.inr (some 169)))], [], H9)) (C := []) rfl trivial ?_
        refine mw_fr (f' := (150, [(4, .inl (pI m)), (3, .inl (mu_max h v)), (5, .inr (.inr (some y))), (2, .inr (.inr (some (D.ip j)))), (1, .inr (.inr (some q))), (0, .inr (.inr (some 169)))], [], H9)) (by first | (rw [(pI_dec m)]; done) | (rw [(pI_dec m)]; rfl)) ?_
        refine mw_go mu_g473 (k := 1) (f1 := (63, [(4, .inl (pI m)), (3, .inl (mu_max h v)), (5, .inr (.inr (some y))), (2, .inr (.inr (some (D.ip j)))), (1, .inr (.inr (some q))), (0, .inr (.inr (some 169)))], [], H9)) (C := []) rfl trivial ?_
        have hz := hnx _ q9
        rw [show hst c m h v = mu_max h v from if_neg (fun z => h3 (nI_lt (a := 0) z.2.2 (by omega)))] at hz
        refine mw_sub (L' := [(4, .inl (pI m)), (3, .inl (mu_max h v)), (2, .inr (.inr (some (D.ip j)))), (1, .inr (.inr (some q))), (0, .inr (.inr (some 169)))]) (by intro x hx; simp only [List.mem_cons, List.not_mem_nil, or_false] at hx ⊢; rcases hx with rfl | rfl | rfl | rfl | rfl <;> simp) ?_
        exact hz
    · -- 147
      refine mw_go mu_g473 (k := 1) (f1 := (150, [(4, .inl ((nI m) + (-1))), (3, .inl (mu_max h v)), (5, .inr (.inr (some y))), (2, .inr (.inr (some (D.ip j)))), (1, .inr (.inr (some q))), (0, .inr (.inr (some 169)))], [], H9)) (C := []) rfl trivial ?_
      refine mw_fr (f' := (150, [(4, .inl (pI m)), (3, .inl (mu_max h v)), (5, .inr (.inr (some y))), (2, .inr (.inr (some (D.ip j)))), (1, .inr (.inr (some q))), (0, .inr (.inr (some 169)))], [], H9)) (by first | (rw [(pI_dec m)]; done) | (rw [(pI_dec m)]; rfl)) ?_
      refine mw_go mu_g473 (k := 1) (f1 := (63, [(4, .inl (pI m)), (3, .inl (mu_max h v)), (5, .inr (.inr (some y))), (2, .inr (.inr (some (D.ip j)))), (1, .inr (.inr (some q))), (0, .inr (.inr (some 169)))], [], H9)) (C := []) rfl trivial ?_
      have hz := hnx _ q9
      rw [show hst c m h v = mu_max h v from if_neg (fun z => h2 (nI_lt (by omega) (by omega)))] at hz
      refine mw_sub (L' := [(4, .inl (pI m)), (3, .inl (mu_max h v)), (2, .inr (.inr (some (D.ip j)))), (1, .inr (.inr (some q))), (0, .inr (.inr (some 169)))]) (by intro x hx; simp only [List.mem_cons, List.not_mem_nil, or_false] at hx ⊢; rcases hx with rfl | rfl | rfl | rfl | rfl <;> simp) ?_
      exact hz
theorem rp_high0 {Hb H0 : mu_H} {D : MD} {hp : Nat} {hs : Nat → Int32} {j l d dd q : Nat} {c : Tre} {R : Int32} (hh : hts H0 D hp hs) (hj : j < D.n) (hn : nd Hb D.G dd q c) (hx : exw (l + 1) c) (hk : nmk D j c) (ih : ∀ q c H dd, rms Hb D H → hts H D hp hs → nd Hb D.G dd q c → exw l c → nmk D j c → mu_TI (mu_D (d + l + 7)) 473 [.inr (.inr (some 169)), .inr (.inr (some q)), .inr (.inr (some (D.ip j)))] H (fun x H1 => x = hgt D j hs l c ∧ ffr 0 H H1)) : ∀ m h H, m ≤ tsn c → rms Hb D H → ffr 0 H0 H → 1 + hgl c (fun k => hgt D j hs l (lkp c k)) m h = R → mu_W (mu_D (d + l + 7)) mu_m473 (63, [(4, .inl (pI m)), (3, .inl h), (2, .inr (.inr (some (D.ip j)))), (1, .inr (.inr (some q))), (0, .inr (.inr (some 169)))], [], H) (fun r => ∃ x H1, r = (.inl (some (.inl x)), H1) ∧ x = R ∧ ffr 0 H0 H1)
  | 0, h, H, hm, hr, hf, hR => by
    show mu_W _ _ (63, [(4, .inl (-1 : Int32)), (3, .inl h), (2, .inr (.inr (some (D.ip j)))), (1, .inr (.inr (some q))), (0, .inr (.inr (some 169)))], [], H) _
    obtain ⟨kd1, ⟨is1, nF1, lt1⟩, ⟨st1, sr1, sf1⟩, ⟨n2_1, n3_1, n7_1⟩, nm1, ar1, aq1, aF1, ai1, ⟨al1, am1, ax1⟩, ch1, dp1⟩ := nd.ra (c := c) hn hr.2.1
    have hl := hn.s26
    refine mw_go mu_g473 (k := 1) (f1 := (65, [(4, .inl (-1 : Int32)), (3, .inl h), (2, .inr (.inr (some (D.ip j)))), (1, .inr (.inr (some q))), (0, .inr (.inr (some 169)))], [.inl (-1 : Int32)], H)) (C := []) rfl trivial ?_
    refine mw_if (P := (-1 : Int32) < 0) (a := 153) (b := 68) (fun _ => rfl) trivial (fun h1 => ?_) (fun h1 => absurd (show (-1 : Int32) < 0 by decide) h1)
    refine mw_go mu_g473 (k := 3) (f1 := (156, [(4, .inl (-1 : Int32)), (3, .inl h), (2, .inr (.inr (some (D.ip j)))), (1, .inr (.inr (some q))), (0, .inr (.inr (some 169)))], [.inl ((1 : Int32) + h)], H)) (C := []) rfl trivial ?_
    exact mw_of (fun _ => mu_ret rfl trivial ⟨_, _, rfl, hR.symm ▸ rfl, hf⟩)
  | m + 1, h, H, hm, hr, hf, hR => by
    show mu_W _ _ (63, [(4, .inl (nI m)), (3, .inl h), (2, .inr (.inr (some (D.ip j)))), (1, .inr (.inr (some q))), (0, .inr (.inr (some 169)))], [], H) _
    rw [hgl] at hR
    obtain ⟨kd1, ⟨is1, nF1, lt1⟩, ⟨st1, sr1, sf1⟩, ⟨n2_1, n3_1, n7_1⟩, nm1, ar1, aq1, aF1, ai1, ⟨al1, am1, ax1⟩, ch1, dp1⟩ := nd.ra (c := c) hn hr.2.1
    have hl := hn.s26
    refine mw_go mu_g473 (k := 1) (f1 := (65, [(4, .inl (nI m)), (3, .inl h), (2, .inr (.inr (some (D.ip j)))), (1, .inr (.inr (some q))), (0, .inr (.inr (some 169)))], [.inl (nI m)], H)) (C := []) rfl trivial ?_
    refine mw_if (P := (nI m) < 0) (a := 153) (b := 68) (fun _ => rfl) trivial (fun h1 => absurd h1 (nI_nn (by omega))) (fun h1 => ?_)
    refine mw_go mu_g473 (k := 2) (f1 := (72, [(4, .inl (nI m)), (3, .inl h), (2, .inr (.inr (some (D.ip j)))), (1, .inr (.inr (some q))), (0, .inr (.inr (some 169)))], [.inr (.inr (some 1000066)), .inr (.inr (some q))], H)) (C := []) rfl trivial ?_
    refine mw_cIe (fun _ => rfl) (show mu_is H (some q) 18 from is1) (agr.isL (e := d + l + 4) (j := 66) hn hr.2.1 (by decide)) ?_
    refine mw_if (P := (if tkd c = 66 then 1 else 0) = 0) (a := 98) (b := 78) (fun _ => rfl) trivial (fun hi2 => ?_) (fun hi2 => ?_)
    · -- 98
      have ek2 : ¬ tkd c = 66 := fun e => by rw [if_pos e] at hi2; exact absurd hi2 (by decide)
      obtain ⟨y, yr3, yn3⟩ := ch1 m (show m < tsn c by omega)
      have yn3 : nd Hb D.G (dd - 1) y (tkk c m) := yn3
      obtain ⟨b1_3, b2_3, b3_3, b4_3⟩ := ar_at ai1 (by decide) (Nat.lt_of_lt_of_le (show m < tsn c by omega) al1) (Nat.lt_of_le_of_lt ax1 (by decide))
      have y2_3 : mu_r H ar1 (nI m).toNatClampNeg = some y := by rw [b4_3]; exact yr3
      refine mw_go mu_g473 (k := 2) (f1 := (102, [(4, .inl (nI m)), (3, .inl h), (2, .inr (.inr (some (D.ip j)))), (1, .inr (.inr (some q))), (0, .inr (.inr (some 169)))], [.inr (.inr (mu_r H q 1))], H)) (C := [mu_is H (some q) 18]) rfl (show mu_is H (some q) 18 from is1) ?_
      refine mw_fr (f' := (102, [(4, .inl (nI m)), (3, .inl h), (2, .inr (.inr (some (D.ip j)))), (1, .inr (.inr (some q))), (0, .inr (.inr (some 169)))], [.inr (.inr (some ar1))], H)) (by first | (rw [aq1]; done) | (rw [aq1]; rfl)) ?_
      refine mw_go mu_g473 (k := 2) (f1 := (105, [(4, .inl (nI m)), (3, .inl h), (2, .inr (.inr (some (D.ip j)))), (1, .inr (.inr (some q))), (0, .inr (.inr (some 169)))], [.inr (.inr (mu_r H ar1 (nI m).toNatClampNeg))], H)) (C := [mu_is H (some ar1) (mu_k H ar1), 103 ≤ mu_k H ar1 ∧ mu_k H ar1 ≤ 110 ∧ mu_k H ar1 ≠ 108, vp_in (nI m) (mu_n H ar1)]) rfl (show (mu_is H (some ar1) (mu_k H ar1)) ∧ (103 ≤ mu_k H ar1 ∧ mu_k H ar1 ≤ 110 ∧ mu_k H ar1 ≠ 108) ∧ (vp_in (nI m) (mu_n H ar1)) from ⟨b1_3, b2_3, b3_3⟩) ?_
      refine mw_fr (f' := (105, [(4, .inl (nI m)), (3, .inl h), (2, .inr (.inr (some (D.ip j)))), (1, .inr (.inr (some q))), (0, .inr (.inr (some 169)))], [.inr (.inr (some y))], H)) (by first | (rw [y2_3]; done) | (rw [y2_3]; rfl)) ?_
      refine mw_sub (L' := [(4, .inl (nI m)), (3, .inl h), (2, .inr (.inr (some (D.ip j)))), (1, .inr (.inr (some q))), (0, .inr (.inr (some 169)))]) (by simp) ?_
      refine rp_hgB (d := d + l + 4) (v := hgt D j hs l (lkp c m)) hr hn (by omega) (by rw [show lkp c m = tkk c m from if_neg (fun z => ek2 z.1)]; exact ih _ _ _ _ hr (hh.ff hf) yn3 (by rw [← show lkp c m = tkk c m from if_neg (fun z => ek2 z.1)]; exact (hx.lk (by omega)).1) (by rw [← show lkp c m = tkk c m from if_neg (fun z => ek2 z.1)]; exact hk.p hx (by omega))) (fun H1 f1 => ?_)
      exact rp_high0 hh hj hn hx hk ih m _ H1 (by omega) (f1.rms hr) (hf.tr f1) hR
    · -- 78
      have ek2 : tkd c = 66 := Decidable.byContradiction (fun e => hi2 (if_neg e))
      refine mw_go mu_g473 (k := 1) (f1 := (80, [(4, .inl (nI m)), (3, .inl h), (2, .inr (.inr (some (D.ip j)))), (1, .inr (.inr (some q))), (0, .inr (.inr (some 169)))], [.inl (nI m)], H)) (C := []) rfl trivial ?_
      refine mw_if (P := 0 < (nI m)) (a := 83) (b := 98) (fun _ => rfl) trivial (fun h2 => ?_) (fun h2 => ?_)
      · -- 83
        have m0 : 0 < m := by have := nI_below (a := 0) (by omega) (by omega) h2; omega
        have t1 := (hx.lk (show m < tsn c by omega)).2 ek2 m0
        obtain ⟨y, yr4, yn4⟩ := ch1 m (show m < tsn c by omega)
        have yn4 : nd Hb D.G (dd - 1) y (tkk c m) := yn4
        obtain ⟨b1_4, b2_4, b3_4, b4_4⟩ := ar_at ai1 (by decide) (Nat.lt_of_lt_of_le (show m < tsn c by omega) al1) (Nat.lt_of_le_of_lt ax1 (by decide))
        have y2_4 : mu_r H ar1 (nI m).toNatClampNeg = some y := by rw [b4_4]; exact yr4
        obtain ⟨kd5, ⟨is5, nF5, lt5⟩, ⟨st5, sr5, sf5⟩, ⟨n2_5, n3_5, n7_5⟩, nm5, ar5, aq5, aF5, ai5, ⟨al5, am5, ax5⟩, ch5, dp5⟩ := nd.ra (c := (tkk c m)) yn4 hr.2.1
        obtain ⟨z, yr6, yn6⟩ := ch5 0 (by rw [t1]; exact Nat.one_pos)
        have yn6 : nd Hb D.G ((dd - 1) - 1) z (tkk (tkk c m) 0) := yn6
        obtain ⟨b1_6, b2_6, b3_6, b4_6⟩ := ar_at ai5 (by decide) (Nat.lt_of_lt_of_le (by rw [t1]; exact Nat.one_pos) al5) (Nat.lt_of_le_of_lt ax5 (by decide))
        have y2_6 : mu_r H ar5 (0 : Int32).toNatClampNeg = some z := yr6
        refine mw_go mu_g473 (k := 2) (f1 := (87, [(4, .inl (nI m)), (3, .inl h), (2, .inr (.inr (some (D.ip j)))), (1, .inr (.inr (some q))), (0, .inr (.inr (some 169)))], [.inr (.inr (mu_r H q 1))], H)) (C := [mu_is H (some q) 18]) rfl (show mu_is H (some q) 18 from is1) ?_
        refine mw_fr (f' := (87, [(4, .inl (nI m)), (3, .inl h), (2, .inr (.inr (some (D.ip j)))), (1, .inr (.inr (some q))), (0, .inr (.inr (some 169)))], [.inr (.inr (some ar1))], H)) (by first | (rw [aq1]; done) | (rw [aq1]; rfl)) ?_
        refine mw_go mu_g473 (k := 2) (f1 := (90, [(4, .inl (nI m)), (3, .inl h), (2, .inr (.inr (some (D.ip j)))), (1, .inr (.inr (some q))), (0, .inr (.inr (some 169)))], [.inr (.inr (mu_r H ar1 (nI m).toNatClampNeg))], H)) (C := [mu_is H (some ar1) (mu_k H ar1), 103 ≤ mu_k H ar1 ∧ mu_k H ar1 ≤ 110 ∧ mu_k H ar1 ≠ 108, vp_in (nI m) (mu_n H ar1)]) rfl (show (mu_is H (some ar1) (mu_k H ar1)) ∧ (103 ≤ mu_k H ar1 ∧ mu_k H ar1 ≤ 110 ∧ mu_k H ar1 ≠ 108) ∧ (vp_in (nI m) (mu_n H ar1)) from ⟨b1_4, b2_4, b3_4⟩) ?_
        refine mw_fr (f' := (90, [(4, .inl (nI m)), (3, .inl h), (2, .inr (.inr (some (D.ip j)))), (1, .inr (.inr (some q))), (0, .inr (.inr (some 169)))], [.inr (.inr (some y))], H)) (by first | (rw [y2_4]; done) | (rw [y2_4]; rfl)) ?_
        refine mw_go mu_g473 (k := 1) (f1 := (93, [(4, .inl (nI m)), (3, .inl h), (2, .inr (.inr (some (D.ip j)))), (1, .inr (.inr (some q))), (0, .inr (.inr (some 169)))], [.inr (.inr (mu_r H y 1))], H)) (C := [mu_is H (some y) 18]) rfl (show mu_is H (some y) 18 from is5) ?_
        refine mw_fr (f' := (93, [(4, .inl (nI m)), (3, .inl h), (2, .inr (.inr (some (D.ip j)))), (1, .inr (.inr (some q))), (0, .inr (.inr (some 169)))], [.inr (.inr (some ar5))], H)) (by first | (rw [aq5]; done) | (rw [aq5]; rfl)) ?_
        refine mw_go mu_g473 (k := 2) (f1 := (95, [(4, .inl (nI m)), (3, .inl h), (2, .inr (.inr (some (D.ip j)))), (1, .inr (.inr (some q))), (0, .inr (.inr (some 169)))], [.inr (.inr (mu_r H ar5 (0 : Int32).toNatClampNeg))], H)) (C := [mu_is H (some ar5) (mu_k H ar5), 103 ≤ mu_k H ar5 ∧ mu_k H ar5 ≤ 110 ∧ mu_k H ar5 ≠ 108, vp_in (0 : Int32) (mu_n H ar5)]) rfl (show (mu_is H (some ar5) (mu_k H ar5)) ∧ (103 ≤ mu_k H ar5 ∧ mu_k H ar5 ≤ 110 ∧ mu_k H ar5 ≠ 108) ∧ (vp_in (0 : Int32) (mu_n H ar5)) from ⟨b1_6, b2_6, b3_6⟩) ?_
        refine mw_fr (f' := (95, [(4, .inl (nI m)), (3, .inl h), (2, .inr (.inr (some (D.ip j)))), (1, .inr (.inr (some q))), (0, .inr (.inr (some 169)))], [.inr (.inr (some z))], H)) (by first | (rw [y2_6]; done) | (rw [y2_6]; rfl)) ?_
        refine mw_go mu_g473 (k := 1) (f1 := (105, [(4, .inl (nI m)), (3, .inl h), (2, .inr (.inr (some (D.ip j)))), (1, .inr (.inr (some q))), (0, .inr (.inr (some 169)))], [.inr (.inr (some z))], H)) (C := []) rfl trivial ?_
        refine mw_sub (L' := [(4, .inl (nI m)), (3, .inl h), (2, .inr (.inr (some (D.ip j)))), (1, .inr (.inr (some q))), (0, .inr (.inr (some 169)))]) (by simp) ?_
        refine rp_hgB (d := d + l + 4) (v := hgt D j hs l (lkp c m)) hr hn (by omega) (by rw [show lkp c m = tkk (tkk c m) 0 from if_pos ⟨ek2, m0⟩]; exact ih _ _ _ _ hr (hh.ff hf) yn6 (by rw [← show lkp c m = tkk (tkk c m) 0 from if_pos ⟨ek2, m0⟩]; exact (hx.lk (by omega)).1) (by rw [← show lkp c m = tkk (tkk c m) 0 from if_pos ⟨ek2, m0⟩]; exact hk.p hx (by omega))) (fun H1 f1 => ?_)
        exact rp_high0 hh hj hn hx hk ih m _ H1 (by omega) (f1.rms hr) (hf.tr f1) hR
      · -- 98
        obtain ⟨y, yr7, yn7⟩ := ch1 m (show m < tsn c by omega)
        have yn7 : nd Hb D.G (dd - 1) y (tkk c m) := yn7
        obtain ⟨b1_7, b2_7, b3_7, b4_7⟩ := ar_at ai1 (by decide) (Nat.lt_of_lt_of_le (show m < tsn c by omega) al1) (Nat.lt_of_le_of_lt ax1 (by decide))
        have y2_7 : mu_r H ar1 (nI m).toNatClampNeg = some y := by rw [b4_7]; exact yr7
        refine mw_go mu_g473 (k := 2) (f1 := (102, [(4, .inl (nI m)), (3, .inl h), (2, .inr (.inr (some (D.ip j)))), (1, .inr (.inr (some q))), (0, .inr (.inr (some 169)))], [.inr (.inr (mu_r H q 1))], H)) (C := [mu_is H (some q) 18]) rfl (show mu_is H (some q) 18 from is1) ?_
        refine mw_fr (f' := (102, [(4, .inl (nI m)), (3, .inl h), (2, .inr (.inr (some (D.ip j)))), (1, .inr (.inr (some q))), (0, .inr (.inr (some 169)))], [.inr (.inr (some ar1))], H)) (by first | (rw [aq1]; done) | (rw [aq1]; rfl)) ?_
        refine mw_go mu_g473 (k := 2) (f1 := (105, [(4, .inl (nI m)), (3, .inl h), (2, .inr (.inr (some (D.ip j)))), (1, .inr (.inr (some q))), (0, .inr (.inr (some 169)))], [.inr (.inr (mu_r H ar1 (nI m).toNatClampNeg))], H)) (C := [mu_is H (some ar1) (mu_k H ar1), 103 ≤ mu_k H ar1 ∧ mu_k H ar1 ≤ 110 ∧ mu_k H ar1 ≠ 108, vp_in (nI m) (mu_n H ar1)]) rfl (show (mu_is H (some ar1) (mu_k H ar1)) ∧ (103 ≤ mu_k H ar1 ∧ mu_k H ar1 ≤ 110 ∧ mu_k H ar1 ≠ 108) ∧ (vp_in (nI m) (mu_n H ar1)) from ⟨b1_7, b2_7, b3_7⟩) ?_
        refine mw_fr (f' := (105, [(4, .inl (nI m)), (3, .inl h), (2, .inr (.inr (some (D.ip j)))), (1, .inr (.inr (some q))), (0, .inr (.inr (some 169)))], [.inr (.inr (some y))], H)) (by first | (rw [y2_7]; done) | (rw [y2_7]; rfl)) ?_
        refine mw_sub (L' := [(4, .inl (nI m)), (3, .inl h), (2, .inr (.inr (some (D.ip j)))), (1, .inr (.inr (some q))), (0, .inr (.inr (some 169)))]) (by simp) ?_
        refine rp_hgB (d := d + l + 4) (v := hgt D j hs l (lkp c m)) hr hn (by omega) (by rw [show lkp c m = tkk c m from if_neg (fun z => h2 (nI_lt (a := 0) z.2 (by omega)))]; exact ih _ _ _ _ hr (hh.ff hf) yn7 (by rw [← show lkp c m = tkk c m from if_neg (fun z => h2 (nI_lt (a := 0) z.2 (by omega)))]; exact (hx.lk (by omega)).1) (by rw [← show lkp c m = tkk c m from if_neg (fun z => h2 (nI_lt (a := 0) z.2 (by omega)))]; exact hk.p hx (by omega))) (fun H1 f1 => ?_)
        exact rp_high0 hh hj hn hx hk ih m _ H1 (by omega) (f1.rms hr) (hf.tr f1) hR
theorem rp_high {Hb : mu_H} {D : MD} {hp : Nat} {hs : Nat → Int32} {j d : Nat} (hb : mdb D) : ∀ l {H : mu_H} {dd q : Nat} {c : Tre}, rms Hb D H → hts H D hp hs → j < D.n → nd Hb D.G dd q c → exw l c → nmk D j c → mu_TI (mu_D (d + l + 7)) 473 [.inr (.inr (some 169)), .inr (.inr (some q)), .inr (.inr (some (D.ip j)))] H (fun x H1 => x = hgt D j hs l c ∧ ffr 0 H H1)
  | 0, _, _, _, _, _, _, _, _, hx, _ => hx.elim
  | l + 1, H, dd, q, c, hr, hh, hj, hn, hx, hk => by
    refine mu_meth (M := mu_m473) rfl rfl ?_
    refine mw_ht (mu_fn_of (show [0, 1, 2].Nodup by decide)) ?_
    obtain ⟨kd1, ⟨is1, nF1, lt1⟩, ⟨st1, sr1, sf1⟩, ⟨n2_1, n3_1, n7_1⟩, nm1, ar1, aq1, aF1, ai1, ⟨al1, am1, ax1⟩, ch1, dp1⟩ := nd.ra (c := c) hn hr.2.1
    refine mw_go mu_g473 (k := 2) (f1 := (3, [(0, .inr (.inr (some 169))), (1, .inr (.inr (some q))), (2, .inr (.inr (some (D.ip j))))], [.inr (.inr (some 1000033)), .inr (.inr (some q))], H)) (C := []) rfl trivial ?_
    refine mw_cIe (fun _ => rfl) (show mu_is H (some q) 18 from is1) (agr.isL (e := d + l + 4) (j := 33) hn hr.2.1 (by decide)) ?_
    refine mw_if (P := (if tkd c = 33 then 1 else 0) = 0) (a := 11) (b := 9) (fun _ => rfl) trivial (fun hi2 => ?_) (fun hi2 => ?_)
    · -- 11
      have ek2 : ¬ tkd c = 33 := fun e => by rw [if_pos e] at hi2; exact absurd hi2 (by decide)
      refine mw_go mu_g473 (k := 2) (f1 := (15, [(0, .inr (.inr (some 169))), (1, .inr (.inr (some q))), (2, .inr (.inr (some (D.ip j))))], [.inr (.inr (some 1000064)), .inr (.inr (some q))], H)) (C := []) rfl trivial ?_
      refine mw_cIe (fun _ => rfl) (show mu_is H (some q) 18 from is1) (agr.isL (e := d + l + 4) (j := 64) hn hr.2.1 (by decide)) ?_
      refine mw_if (P := (if tkd c = 64 then 1 else 0) = 0) (a := 53) (b := 21) (fun _ => rfl) trivial (fun hi3 => ?_) (fun hi3 => ?_)
      · -- 53
        have ek3 : ¬ tkd c = 64 := fun e => by rw [if_pos e] at hi3; exact absurd hi3 (by decide)
        have em : hgt D j hs (l + 1) c = 1 + hgl c (fun k => hgt D j hs l (lkp c k)) (tsn c) 0 := by rw [hgt, if_neg ek2, if_neg ek3]
        refine mw_go mu_g473 (k := 4) (f1 := (59, [(3, .inl (0 : Int32)), (0, .inr (.inr (some 169))), (1, .inr (.inr (some q))), (2, .inr (.inr (some (D.ip j))))], [.inl (mu_i H q 2)], H)) (C := [mu_is H (some q) 18]) rfl (show mu_is H (some q) 18 from is1) ?_
        refine mw_fr (f' := (59, [(3, .inl (0 : Int32)), (0, .inr (.inr (some 169))), (1, .inr (.inr (some q))), (2, .inr (.inr (some (D.ip j))))], [.inl (nI (tsn c))], H)) (by first | (rw [n2_1]; done) | (rw [n2_1]; rfl)) ?_
        refine mw_go mu_g473 (k := 2) (f1 := (61, [(3, .inl (0 : Int32)), (0, .inr (.inr (some 169))), (1, .inr (.inr (some q))), (2, .inr (.inr (some (D.ip j))))], [.inl ((nI (tsn c)) - (1 : Int32))], H)) (C := []) rfl trivial ?_
        refine mw_fr (f' := (61, [(3, .inl (0 : Int32)), (0, .inr (.inr (some 169))), (1, .inr (.inr (some q))), (2, .inr (.inr (some (D.ip j))))], [.inl (pI (tsn c))], H)) (by first | (rw [(pI_sub (tsn c))]; done) | (rw [(pI_sub (tsn c))]; rfl)) ?_
        refine mw_go mu_g473 (k := 1) (f1 := (63, [(4, .inl (pI (tsn c))), (3, .inl (0 : Int32)), (0, .inr (.inr (some 169))), (1, .inr (.inr (some q))), (2, .inr (.inr (some (D.ip j))))], [], H)) (C := []) rfl trivial ?_
        refine mw_sub (L' := [(4, .inl (pI (tsn c))), (3, .inl (0 : Int32)), (2, .inr (.inr (some (D.ip j)))), (1, .inr (.inr (some q))), (0, .inr (.inr (some 169)))]) (by intro x hx; simp only [List.mem_cons, List.not_mem_nil, or_false] at hx ⊢; rcases hx with rfl | rfl | rfl | rfl | rfl <;> simp) ?_
        exact rp_high0 hh hj hn hx hk (fun q c H dd hr hh hn hx hk => rp_high hb l hr hh hj hn hx hk) (tsn c) 0 _ (Nat.le_refl _) hr ffr.rf em.symm
      · -- 21
        have ek3 : tkd c = 64 := Decidable.byContradiction (fun e => hi3 (if_neg e))
        have nk : tkd c ∈ [64, 33] := by rw [ek3]; decide
        have hns : 0 < (tns c).length := (hx.toN.1 nk).1
        obtain ⟨nb, nr, _⟩ := nm1.rd hns
        have nm2 := nm1
        rw [nr] at nm2
        have em : hgt D j hs (l + 1) c = (match fno D j (tns c) with | none => 0 | some x => if x.2.2 < 0 then 1 else 1 + hs x.2.2.toNatClampNeg) := by rw [hgt, if_neg ek2, if_pos ek3]
        refine mw_go mu_g473 (k := 4) (f1 := (27, [(0, .inr (.inr (some 169))), (1, .inr (.inr (some q))), (2, .inr (.inr (some (D.ip j))))], [.inr (.inr (mu_r H q 4)), .inr (.inr (some (D.ip j))), .inr (.inr (some 169))], H)) (C := [mu_is H (some q) 18]) rfl (show mu_is H (some q) 18 from is1) ?_
        refine mw_fr (f' := (27, [(0, .inr (.inr (some 169))), (1, .inr (.inr (some q))), (2, .inr (.inr (some (D.ip j))))], [.inr (.inr (some nb)), .inr (.inr (some (D.ip j))), .inr (.inr (some 169))], H)) (by first | (rw [nr]; done) | (rw [nr]; rfl)) ?_
        refine mw_cE (as := [.inr (.inr (some (D.ip j))), .inr (.inr (some nb))]) (o := (some 169)) (S1 := []) rfl rfl rfl rfl (Nat.le_of_ble_eq_true rfl) (by decide) (show mu_is H (some 169) 1 from hr.2.2.1.1) rfl (by decide) (rp_fnd (d := d + l + 1) hr hj nm2 hns) (fun E9 e9 => absurd e9.1 (hk.f nk)) (fun v9 H4 e9 => ?_)
        obtain ⟨rfl, p1, p2⟩ := e9
        show mu_W _ mu_m473 (30, [(0, .inr (.inr (some 169))), (1, .inr (.inr (some q))), (2, .inr (.inr (some (D.ip j))))], [], H4) _
        have hr2 := p1.rms hr
        have hh2 := hh.ff p1
        rw [p2] at em
        dsimp only at em
        have fb := (fno_b hb hj p2).2.2.1
        have b4 := hb.2.1
        obtain ⟨s, es⟩ : ∃ s, mu_i H4 169 21 = s := ⟨_, rfl⟩
        rw [es] at em fb
        refine mw_go mu_g473 (k := 2) (f1 := (34, [(0, .inr (.inr (some 169))), (1, .inr (.inr (some q))), (2, .inr (.inr (some (D.ip j))))], [.inl (mu_i H4 169 21)], H4)) (C := [mu_is H4 (some 169) 1]) rfl (show mu_is H4 (some 169) 1 from hr2.2.2.1.1) ?_
        refine mw_fr (f' := (34, [(0, .inr (.inr (some 169))), (1, .inr (.inr (some q))), (2, .inr (.inr (some (D.ip j))))], [.inl s], H4)) (by first | (rw [es]; done) | (rw [es]; rfl)) ?_
        refine mw_if (P := s < 0) (a := 37) (b := 41) (fun _ => rfl) trivial (fun h2 => ?_) (fun h2 => ?_)
        · -- 37
          rw [if_pos h2] at em
          refine mw_go mu_g473 (k := 2) (f1 := (52, [(0, .inr (.inr (some 169))), (1, .inr (.inr (some q))), (2, .inr (.inr (some (D.ip j))))], [.inl (1 : Int32)], H4)) (C := []) rfl trivial ?_
          exact mw_of (fun _ => mu_ret rfl trivial ⟨_, _, rfl, em.symm, p1⟩)
        · -- 41
          rw [if_neg h2] at em
          obtain ⟨v, hv, rfl⟩ := fb.resolve_left (fun e => h2 (by rw [e]; decide))
          have hc : (nI v).toNatClampNeg = v := nI_clamp (by omega)
          rw [hc] at em
          have ew : mu_i H4 hp (nI v).toNatClampNeg = hs v := by rw [hc]; exact hh2.2 v hv
          have hi9 : vp_in (nI v) (mu_n H4 hp) := vp_in_nI (Nat.lt_of_lt_of_le hv hh2.1.2.2.2.2.1) hh2.1.2.2.2.2.2
          refine mw_go mu_g473 (k := 3) (f1 := (46, [(0, .inr (.inr (some 169))), (1, .inr (.inr (some q))), (2, .inr (.inr (some (D.ip j))))], [.inr (.inr (mu_r H4 169 26)), .inl (1 : Int32)], H4)) (C := [mu_is H4 (some 169) 1]) rfl (show mu_is H4 (some 169) 1 from hr2.2.2.1.1) ?_
          refine mw_fr (f' := (46, [(0, .inr (.inr (some 169))), (1, .inr (.inr (some q))), (2, .inr (.inr (some (D.ip j))))], [.inr (.inr (some hp)), .inl (1 : Int32)], H4)) (by first | (rw [hh2.1.1]; done) | (rw [hh2.1.1]; rfl)) ?_
          refine mw_go mu_g473 (k := 2) (f1 := (50, [(0, .inr (.inr (some 169))), (1, .inr (.inr (some q))), (2, .inr (.inr (some (D.ip j))))], [.inl (mu_i H4 169 21), .inr (.inr (some hp)), .inl (1 : Int32)], H4)) (C := [mu_is H4 (some 169) 1]) rfl (show mu_is H4 (some 169) 1 from hr2.2.2.1.1) ?_
          refine mw_fr (f' := (50, [(0, .inr (.inr (some 169))), (1, .inr (.inr (some q))), (2, .inr (.inr (some (D.ip j))))], [.inl (nI v), .inr (.inr (some hp)), .inl (1 : Int32)], H4)) (by first | (rw [es]; done) | (rw [es]; rfl)) ?_
          refine mw_go mu_g473 (k := 1) (f1 := (51, [(0, .inr (.inr (some 169))), (1, .inr (.inr (some q))), (2, .inr (.inr (some (D.ip j))))], [.inl (mu_i H4 hp (nI v).toNatClampNeg), .inl (1 : Int32)], H4)) (C := [mu_isr H4 (some hp) 100, vp_in (nI v) (mu_n H4 hp)]) rfl (show (mu_isr H4 (some hp) 100) ∧ (vp_in (nI v) (mu_n H4 hp)) from ⟨⟨rfl, Or.inl hh2.1.2.1.2.1, hh2.1.2.2.2.1⟩, hi9⟩) ?_
          refine mw_fr (f' := (51, [(0, .inr (.inr (some 169))), (1, .inr (.inr (some q))), (2, .inr (.inr (some (D.ip j))))], [.inl (hs v), .inl (1 : Int32)], H4)) (by first | (rw [ew]; done) | (rw [ew]; rfl)) ?_
          refine mw_go mu_g473 (k := 1) (f1 := (52, [(0, .inr (.inr (some 169))), (1, .inr (.inr (some q))), (2, .inr (.inr (some (D.ip j))))], [.inl ((1 : Int32) + (hs v))], H4)) (C := []) rfl trivial ?_
          exact mw_of (fun _ => mu_ret rfl trivial ⟨_, _, rfl, em.symm, p1⟩)
    · -- 9
      have ek2 : tkd c = 33 := Decidable.byContradiction (fun e => hi2 (if_neg e))
      refine mw_go mu_g473 (k := 1) (f1 := (10, [(0, .inr (.inr (some 169))), (1, .inr (.inr (some q))), (2, .inr (.inr (some (D.ip j))))], [.inl (1 : Int32)], H)) (C := []) rfl trivial ?_
      exact mw_of (fun _ => mu_ret rfl trivial ⟨_, _, rfl, (by rw [hgt, if_pos ek2]), ffr.rf⟩)
