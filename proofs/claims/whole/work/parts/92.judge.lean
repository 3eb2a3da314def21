/-! JUDGE: heights and SORTS of an E -/
section JudgeState
variable {H H1 H2 : mu_H} {m : Nat}
/-- an operator and its number as the Parser writes them -/
def opok (op arg : Int32) : Prop := (∃ k, k < 54 ∧ op = nI k) ∧ (op = 30 ∨ op = 33 ∨ op = 31 ∨ op = 34 → ∃ a, 1 ≤ a ∧ a ≤ 16777216 ∧ arg = nI a)
theorem pp_nat {op arg x : Int32} (h : opok op arg) (hp : pp op arg x) : ∃ p, p ≤ 33554432 ∧ x = nI p := by
  rcases hp with e | e | e | ⟨e, e2⟩ | ⟨e, e2⟩ | ⟨e, e2⟩
  · exact ⟨0, by decide, e⟩
  · exact ⟨1, by decide, e⟩
  · exact ⟨2, by decide, e⟩
  · obtain ⟨a, h1, h2, h3⟩ := h.2 (Or.inl e2)
    exact ⟨a + 1, by omega, by rw [e, h3, nI_1]⟩
  · obtain ⟨a, h1, h2, h3⟩ := h.2 (Or.inr (Or.inl e2))
    exact ⟨a, by omega, by rw [e, h3]⟩
  · obtain ⟨a, h1, h2, h3⟩ := h.2 (by rcases e2 with z | z; exact Or.inr (Or.inr (Or.inl z)); exact Or.inr (Or.inr (Or.inr z)))
    exact ⟨2 * a, by omega, by rw [e, h3]; show nI 2 * nI a = _; rw [pk_mul]⟩
theorem jg_minN {a b : Nat} (ha : a < 2 ^ 31) (hb : b < 2 ^ 31) : mu_min (nI a) (nI b) = nI (min a b) := by
  unfold mu_min
  by_cases h : b < a
  · rw [if_pos ((nI_ltI hb ha).mpr h), Nat.min_eq_right (by omega)]
  · rw [if_neg (fun z => h ((nI_ltI hb ha).mp z)), Nat.min_eq_left (by omega)]
def ck (m : Nat) (H : mu_H) : Prop := ∀ i, i < gi_sz H (m + 1) → opok (cel H (m + 1) (i * 2)) (cel H (m + 1) (i * 2 + 1))
/-- the Judge looks at the Model at m -/
def jd (m : Nat) (H : mu_H) : Prop := gi H ∧ (m = 2 ∨ m = 41) ∧ mu_r H 91 3 = some m
/-- nothing but the Judge's stack has changed -/
def jq (H H1 : mu_H) : Prop := gk (fun p => Nat.beq p 91) H H1 ∧ ∀ j, mu_r H1 91 j = mu_r H 91 j
theorem jq.refl (H : mu_H) : jq H H := ⟨gk.refl _ H, fun _ => rfl⟩
theorem jq.trans (h : jq H H1) (h' : jq H1 H2) : jq H H2 := ⟨h.1.trans h'.1, fun j => (h'.2 j).trans (h.2 j)⟩
theorem jq.row (h : jq H H1) {r W : Nat} (hr : gi_w r = some W) : gi_sz H1 r = gi_sz H r ∧ ∀ i, cel H1 r i = cel H r i := by
  obtain ⟨-, -, -, hrk, hro⟩ := gi_w_ok hr
  have hf : Nat.beq r 91 = false := by
    cases hx : Nat.beq r 91 with
    | false => rfl
    | true =>
      rw [Nat.eq_of_beq_eq_true hx] at hr
      cases hr
  have hs := h.1.obj hrk hf
  refine ⟨by unfold gi_sz; rw [hs.i], fun i => ?_⟩
  unfold cel
  rw [hs.r]
  exact (h.1.2.2.2.1 r 1 hro hf).i i
theorem jq.len (h : jq H H1) (hg : gi H) : jn H1 = jn H := by
  unfold jn
  rw [h.2, (h.1.2.1 _ (hg.o (p := 91) (j := 2) rfl).2.1).2]
theorem ck.at (h : ck m H) (hm : m = 2 ∨ m = 41) (hg : gi H1) (hq : jq H H1) {k : Nat} (hk : k < gi_sz H (m + 1)) : opok (rw_get H1 (m + 1) 2 (gi_sz H1 (m + 1)) (nI k) 0) (rw_get H1 (m + 1) 2 (gi_sz H1 (m + 1)) (nI k) 1) := by
  have hn := rw_n (hg.w (md_w0 hm))
  have e := hq.row (md_w0 hm)
  rw [rw_get_at hn (by rw [e.1]; exact hk) (by decide), rw_get_at hn (by rw [e.1]; exact hk) (by decide), e.2, e.2]
  exact h k hk
theorem jd.store (h : jd m H) {i : Nat} {x : Int32} : jd m (mu_si H (mu_p (mu_r H 91 2)) i x) ∧ jq H (mu_si H (mu_p (mu_r H 91 2)) i x) := by
  have ho := (mu_onl.refl H (mu_p (mu_r H 91 2))).si i x
  exact ⟨⟨h.1.onl ho (Or.inl (h.1.o (p := 91) (j := 2) rfl).2.2), h.2.1, h.2.2⟩, gk.onla (p := 91) (j := 2) h.1 ho rfl rfl, fun _ => rfl⟩
end JudgeState
section JudgeStack
variable {H : mu_H} {d m f t : Nat}
/-- PathProver$Judge.sortOf(IIII)I -/
abbrev mu_m190 : ev_M := (11, (some .int), [], ev_b190)
theorem mu_g190 : mu_good mu_m190 := mu_goodk ev_k190
theorem jg_sortOf (h : jd m H) (hck : ck m H) (ht : t ≤ gi_sz H (m + 1)) (hf : f ≤ gi_sz H (m + 1)) (hN : gi_sz H (m + 1) < jn H) (w al : Int32) : mu_TI (mu_D (d + 4)) 190 [.inr (.inr (some 91)), .inl (nI f), .inl (nI t), .inl w, .inl al] H (fun _ H1 => jd m H1 ∧ jq H H1) := by
  have hm := h.2.1
  have hjl := jn_le h.1
  refine mu_meth (M := mu_m190) rfl rfl ?_
  refine mw_ht (mu_fn_of (show [0, 1, 2, 3, 4].Nodup by decide)) ?_
  refine mw_go mu_g190 (k := 4) (f1 := (6, [(6, .inl (nI f)), (5, .inl (0 : Int32)), (0, .inr (.inr (some 91))), (1, .inl (nI f)), (2, .inl (nI t)), (3, .inl w), (4, .inl al)], [], H)) (C := []) rfl trivial ?_
  show mu_W _ _ (6, [(6, .inl (nI f)), (5, .inl (nI 0)), (0, .inr (.inr (some 91))), (1, .inl (nI f)), (2, .inl (nI t)), (3, .inl w), (4, .inl al)], [], H) _
  refine mw_sub (L' := [(5, .inl (nI 0)), (6, .inl (nI f)), (0, .inr (.inr (some 91))), (1, .inl (nI f)), (2, .inl (nI t)), (3, .inl w), (4, .inl al)]) (by simp) ?_
  refine mw_down (α := Nat × Nat × mu_H) (fun zs => (6, [(5, .inl (nI zs.1)), (6, .inl (nI zs.2.1)), (0, .inr (.inr (some 91))), (1, .inl (nI f)), (2, .inl (nI t)), (3, .inl w), (4, .inl al)], [], zs.2.2)) (fun zs => t - zs.2.1) (fun zs => jd m zs.2.2 ∧ jq H zs.2.2 ∧ zs.1 ≤ zs.2.1 - f ∧ f ≤ zs.2.1 ∧ zs.2.1 ≤ max f t) (fun zs hz ihJ => ?_) (0, f, H) ⟨h, jq.refl H, Nat.zero_le _, Nat.le_refl _, Nat.le_max_left _ _⟩
  obtain ⟨tp, k, Hs⟩ := zs
  obtain ⟨hps, hts, h1s, h2s, h3s⟩ := hz
  have hps : jd m Hs := hps
  have hts : jq H Hs := hts
  have h1s : tp ≤ k - f := h1s
  have h2s : f ≤ k := h2s
  have h3s : k ≤ max f t := h3s
  have hjn : jn Hs = jn H := hts.len h.1
  show mu_W _ _ (6, [(5, .inl (nI tp)), (6, .inl (nI k)), (0, .inr (.inr (some 91))), (1, .inl (nI f)), (2, .inl (nI t)), (3, .inl w), (4, .inl al)], [], Hs) _
  refine mw_go mu_g190 (k := 2) (f1 := (9, [(5, .inl (nI tp)), (6, .inl (nI k)), (0, .inr (.inr (some 91))), (1, .inl (nI f)), (2, .inl (nI t)), (3, .inl w), (4, .inl al)], [.inl (nI t), .inl (nI k)], Hs)) (C := []) rfl trivial ?_
  refine mw_if (P := (nI k) < (nI t)) (a := 12) (b := 122) (fun _ => rfl) trivial (fun h1 => ?_) (fun h1 => ?_)
  · -- 12: (nI k) < (nI t)
    have hkt : k < t := (nI_ltI (by omega) (by omega)).mp h1
    refine mw_go mu_g190 (k := 2) (f1 := (16, [(5, .inl (nI tp)), (6, .inl (nI k)), (0, .inr (.inr (some 91))), (1, .inl (nI f)), (2, .inl (nI t)), (3, .inl w), (4, .inl al)], [.inr (.inr (mu_r Hs 91 3))], Hs)) (C := [mu_is Hs (some 91) 3]) rfl (show mu_is Hs (some 91) 3 from hps.1.is rfl) ?_
    rw [hps.2.2]
    refine mw_go mu_g190 (k := 1) (f1 := (19, [(5, .inl (nI tp)), (6, .inl (nI k)), (0, .inr (.inr (some 91))), (1, .inl (nI f)), (2, .inl (nI t)), (3, .inl w), (4, .inl al)], [.inr (.inr (mu_r Hs m 0))], Hs)) (C := [mu_is Hs (some m) 6]) rfl (show mu_is Hs (some m) 6 from (show mu_is Hs (some m) 6 from gi_im hps.1 hps.2.1)) ?_
    rw [(show mu_r Hs m 0 = some (m + 1) from (gi_mr hps.1 hps.2.1 (j := 0) (by decide)).trans (congrArg some (by omega)))]
    refine mw_go mu_g190 (k := 2) (f1 := (22, [(5, .inl (nI tp)), (6, .inl (nI k)), (0, .inr (.inr (some 91))), (1, .inl (nI f)), (2, .inl (nI t)), (3, .inl w), (4, .inl al)], [.inl (0 : Int32), .inl (nI k), .inr (.inr (some (m + 1)))], Hs)) (C := []) rfl trivial ?_
    refine mw_cIe (fun _ => rfl) (show mu_is Hs (some (m + 1)) 10 from (hps.1.w (md_w0 hps.2.1)).1) (gi_get_ok (d := (d + 2)) (H := Hs) hps.1 (md_w0 hps.2.1) (nI k) (j := 0) (by decide)) ?_
    refine mw_go mu_g190 (k := 3) (f1 := (31, [(7, .inl (rw_get Hs (m + 1) 2 (gi_sz Hs (m + 1)) (nI k) 0)), (5, .inl (nI tp)), (6, .inl (nI k)), (0, .inr (.inr (some 91))), (1, .inl (nI f)), (2, .inl (nI t)), (3, .inl w), (4, .inl al)], [.inr (.inr (mu_r Hs 91 3))], Hs)) (C := [mu_is Hs (some 91) 3]) rfl (show mu_is Hs (some 91) 3 from hps.1.is rfl) ?_
    rw [hps.2.2]
    refine mw_go mu_g190 (k := 1) (f1 := (34, [(7, .inl (rw_get Hs (m + 1) 2 (gi_sz Hs (m + 1)) (nI k) 0)), (5, .inl (nI tp)), (6, .inl (nI k)), (0, .inr (.inr (some 91))), (1, .inl (nI f)), (2, .inl (nI t)), (3, .inl w), (4, .inl al)], [.inr (.inr (mu_r Hs m 0))], Hs)) (C := [mu_is Hs (some m) 6]) rfl (show mu_is Hs (some m) 6 from (show mu_is Hs (some m) 6 from gi_im hps.1 hps.2.1)) ?_
    rw [(show mu_r Hs m 0 = some (m + 1) from (gi_mr hps.1 hps.2.1 (j := 0) (by decide)).trans (congrArg some (by omega)))]
    refine mw_go mu_g190 (k := 2) (f1 := (37, [(7, .inl (rw_get Hs (m + 1) 2 (gi_sz Hs (m + 1)) (nI k) 0)), (5, .inl (nI tp)), (6, .inl (nI k)), (0, .inr (.inr (some 91))), (1, .inl (nI f)), (2, .inl (nI t)), (3, .inl w), (4, .inl al)], [.inl (1 : Int32), .inl (nI k), .inr (.inr (some (m + 1)))], Hs)) (C := []) rfl trivial ?_
    refine mw_cIe (fun _ => rfl) (show mu_is Hs (some (m + 1)) 10 from (hps.1.w (md_w0 hps.2.1)).1) (gi_get_ok (d := (d + 2)) (H := Hs) hps.1 (md_w0 hps.2.1) (nI k) (j := 1) (by decide)) ?_
    refine mw_go mu_g190 (k := 3) (f1 := (46, [(8, .inl (rw_get Hs (m + 1) 2 (gi_sz Hs (m + 1)) (nI k) 1)), (7, .inl (rw_get Hs (m + 1) 2 (gi_sz Hs (m + 1)) (nI k) 0)), (5, .inl (nI tp)), (6, .inl (nI k)), (0, .inr (.inr (some 91))), (1, .inl (nI f)), (2, .inl (nI t)), (3, .inl w), (4, .inl al)], [.inl (rw_get Hs (m + 1) 2 (gi_sz Hs (m + 1)) (nI k) 1), .inl (rw_get Hs (m + 1) 2 (gi_sz Hs (m + 1)) (nI k) 0)], Hs)) (C := []) rfl trivial ?_
    refine mw_cI (fun _ => rfl) trivial (pv_parts (d := (d + 2)) hps.1 (rw_get Hs (m + 1) 2 (gi_sz Hs (m + 1)) (nI k) 0) (rw_get Hs (m + 1) 2 (gi_sz Hs (m + 1)) (nI k) 1)) (fun x4 H4 q4 => ?_)
    obtain ⟨rfl, hpp4⟩ := q4
    obtain ⟨p, hp33, rfl⟩ := pp_nat (hck.at hm hps.1 hts (by omega)) hpp4
    refine mw_go mu_g190 (k := 1) (f1 := (51, [(8, .inl (rw_get Hs (m + 1) 2 (gi_sz Hs (m + 1)) (nI k) 1)), (7, .inl (rw_get Hs (m + 1) 2 (gi_sz Hs (m + 1)) (nI k) 0)), (5, .inl (nI tp)), (6, .inl (nI k)), (0, .inr (.inr (some 91))), (1, .inl (nI f)), (2, .inl (nI t)), (3, .inl w), (4, .inl al)], [.inl (nI tp), .inl (nI p)], Hs)) (C := []) rfl trivial ?_
    refine mw_cIe (fun _ => rfl) trivial (mu_min_ok (d := (d + 2)) (nI p) (nI tp)) ?_
    rw [jg_minN (by omega) (by omega)]
    refine mw_go mu_g190 (k := 2) (f1 := (58, [(9, .inl (nI (min p tp))), (8, .inl (rw_get Hs (m + 1) 2 (gi_sz Hs (m + 1)) (nI k) 1)), (7, .inl (rw_get Hs (m + 1) 2 (gi_sz Hs (m + 1)) (nI k) 0)), (5, .inl (nI tp)), (6, .inl (nI k)), (0, .inr (.inr (some 91))), (1, .inl (nI f)), (2, .inl (nI t)), (3, .inl w), (4, .inl al)], [.inl (nI (min p tp))], Hs)) (C := []) rfl trivial ?_
    refine mw_if (P := (nI (min p tp)) = 0) (a := 61) (b := 73) (fun _ => rfl) trivial (fun h6 => ?_) (fun h6 => ?_)
    · -- 61: (nI (min p tp)) = 0
      refine mw_go mu_g190 (k := 4) (f1 := (67, [(9, .inl (nI (min p tp))), (8, .inl (rw_get Hs (m + 1) 2 (gi_sz Hs (m + 1)) (nI k) 1)), (7, .inl (rw_get Hs (m + 1) 2 (gi_sz Hs (m + 1)) (nI k) 0)), (5, .inl (nI tp)), (6, .inl (nI k)), (0, .inr (.inr (some 91))), (1, .inl (nI f)), (2, .inl (nI t)), (3, .inl w), (4, .inl al)], [.inl al, .inl w, .inl (nI k), .inr (.inr (some 91))], Hs)) (C := []) rfl trivial ?_
      refine mw_cI (fun _ => rfl) (show mu_is Hs (some 91) 3 from hps.1.is rfl) (jg_leaf (d := d) hps.1 hps.2.1 hps.2.2 (nI k) w al) (fun x7 H7 q7 => ?_)
      obtain rfl := q7
      refine mw_go mu_g190 (k := 3) (f1 := (92, [(10, .inl x7), (9, .inl (nI (min p tp))), (8, .inl (rw_get Hs (m + 1) 2 (gi_sz Hs (m + 1)) (nI k) 1)), (7, .inl (rw_get Hs (m + 1) 2 (gi_sz Hs (m + 1)) (nI k) 0)), (5, .inl (nI tp)), (6, .inl (nI k)), (0, .inr (.inr (some 91))), (1, .inl (nI f)), (2, .inl (nI t)), (3, .inl w), (4, .inl al)], [.inl x7], Hs)) (C := []) rfl trivial ?_
      refine mw_if (P := x7 = 0) (a := 95) (b := 97) (fun _ => rfl) trivial (fun h8 => ?_) (fun h8 => ?_)
      · -- 95: x7 = 0
        refine mw_go mu_g190 (k := 1) (f1 := (96, [(10, .inl x7), (9, .inl (nI (min p tp))), (8, .inl (rw_get Hs (m + 1) 2 (gi_sz Hs (m + 1)) (nI k) 1)), (7, .inl (rw_get Hs (m + 1) 2 (gi_sz Hs (m + 1)) (nI k) 0)), (5, .inl (nI tp)), (6, .inl (nI k)), (0, .inr (.inr (some 91))), (1, .inl (nI f)), (2, .inl (nI t)), (3, .inl w), (4, .inl al)], [.inl (0 : Int32)], Hs)) (C := []) rfl trivial ?_
        exact mw_of (fun _ => mu_ret rfl trivial ⟨_, Hs, rfl, hps, hts⟩)
      · -- 97: not x7 = 0
        refine mw_go mu_g190 (k := 3) (f1 := (102, [(10, .inl x7), (9, .inl (nI (min p tp))), (8, .inl (rw_get Hs (m + 1) 2 (gi_sz Hs (m + 1)) (nI k) 1)), (7, .inl (rw_get Hs (m + 1) 2 (gi_sz Hs (m + 1)) (nI k) 0)), (5, .inl (nI tp)), (6, .inl (nI k)), (0, .inr (.inr (some 91))), (1, .inl (nI f)), (2, .inl (nI t)), (3, .inl w), (4, .inl al)], [.inl ((nI tp) - (nI (min p tp)))], Hs)) (C := []) rfl trivial ?_
        rw [show nI tp - nI (min p tp) = nI (tp - min p tp) from pk_sub (by omega)]
        refine mw_go mu_g190 (k := 5) (f1 := (112, [(5, .inl (nI (tp - min p tp))), (10, .inl x7), (9, .inl (nI (min p tp))), (8, .inl (rw_get Hs (m + 1) 2 (gi_sz Hs (m + 1)) (nI k) 1)), (7, .inl (rw_get Hs (m + 1) 2 (gi_sz Hs (m + 1)) (nI k) 0)), (6, .inl (nI k)), (0, .inr (.inr (some 91))), (1, .inl (nI f)), (2, .inl (nI t)), (3, .inl w), (4, .inl al)], [.inl x7, .inl (nI (tp - min p tp)), .inr (.inr (mu_r Hs 91 2))], Hs)) (C := [mu_is Hs (some 91) 3]) rfl (show mu_is Hs (some 91) 3 from hps.1.is rfl) ?_
        refine mw_go mu_g190 (k := 1) (f1 := (113, [(5, .inl (nI (tp - min p tp))), (10, .inl x7), (9, .inl (nI (min p tp))), (8, .inl (rw_get Hs (m + 1) 2 (gi_sz Hs (m + 1)) (nI k) 1)), (7, .inl (rw_get Hs (m + 1) 2 (gi_sz Hs (m + 1)) (nI k) 0)), (6, .inl (nI k)), (0, .inr (.inr (some 91))), (1, .inl (nI f)), (2, .inl (nI t)), (3, .inl w), (4, .inl al)], [], (mu_si Hs (mu_p (mu_r Hs 91 2)) (nI (tp - min p tp)).toNatClampNeg x7))) (C := [mu_is Hs (mu_r Hs 91 2) 100, vp_in (nI (tp - min p tp)) (mu_n Hs (mu_p (mu_r Hs 91 2)))]) rfl ⟨hps.1.o (p := 91) (j := 2) rfl, (show vp_in (nI (tp - min p tp)) (jn Hs) from vp_in_nI (by rw [(hts.len h.1)]; omega) (by have := jn_le hps.1; omega))⟩ ?_
        obtain ⟨hp9, qt9⟩ := hps.store (i := (nI (tp - min p tp)).toNatClampNeg) (x := x7)
        have ht9 := hts.trans qt9
        generalize (mu_si Hs (mu_p (mu_r Hs 91 2)) (nI (tp - min p tp)).toNatClampNeg x7) = H9 at hp9 qt9 ht9 ⊢
        refine mw_go mu_g190 (k := 3) (f1 := (6, [(6, .inl ((nI k) + 1)), (5, .inl ((nI (tp - min p tp)) + 1)), (10, .inl x7), (9, .inl (nI (min p tp))), (8, .inl (rw_get Hs (m + 1) 2 (gi_sz Hs (m + 1)) (nI k) 1)), (7, .inl (rw_get Hs (m + 1) 2 (gi_sz Hs (m + 1)) (nI k) 0)), (0, .inr (.inr (some 91))), (1, .inl (nI f)), (2, .inl (nI t)), (3, .inl w), (4, .inl al)], [], H9)) (C := []) rfl trivial ?_
        rw [nI_1, nI_1]
        exact mw_sub (by simp) (ihJ (tp - min p tp + 1, k + 1, H9) ⟨hp9, ht9, (show tp - min p tp + 1 ≤ k + 1 - f by omega), (show f ≤ k + 1 by omega), (show k + 1 ≤ max f t by omega)⟩ (by show t - (k + 1) < t - k; omega))
    · -- 73: not (nI (min p tp)) = 0
      have hq1 : 1 ≤ min p tp := Nat.one_le_iff_ne_zero.mpr (fun z => h6 (by rw [z]; rfl))
      refine mw_go mu_g190 (k := 5) (f1 := (81, [(9, .inl (nI (min p tp))), (8, .inl (rw_get Hs (m + 1) 2 (gi_sz Hs (m + 1)) (nI k) 1)), (7, .inl (rw_get Hs (m + 1) 2 (gi_sz Hs (m + 1)) (nI k) 0)), (5, .inl (nI tp)), (6, .inl (nI k)), (0, .inr (.inr (some 91))), (1, .inl (nI f)), (2, .inl (nI t)), (3, .inl w), (4, .inl al)], [.inl ((nI tp) - (nI (min p tp))), .inl (rw_get Hs (m + 1) 2 (gi_sz Hs (m + 1)) (nI k) 0), .inr (.inr (some 91))], Hs)) (C := []) rfl trivial ?_
      rw [show nI tp - nI (min p tp) = nI (tp - min p tp) from pk_sub (by omega)]
      refine mw_go mu_g190 (k := 2) (f1 := (85, [(9, .inl (nI (min p tp))), (8, .inl (rw_get Hs (m + 1) 2 (gi_sz Hs (m + 1)) (nI k) 1)), (7, .inl (rw_get Hs (m + 1) 2 (gi_sz Hs (m + 1)) (nI k) 0)), (5, .inl (nI tp)), (6, .inl (nI k)), (0, .inr (.inr (some 91))), (1, .inl (nI f)), (2, .inl (nI t)), (3, .inl w), (4, .inl al)], [.inl al, .inl (nI (min p tp)), .inl (nI (tp - min p tp)), .inl (rw_get Hs (m + 1) 2 (gi_sz Hs (m + 1)) (nI k) 0), .inr (.inr (some 91))], Hs)) (C := []) rfl trivial ?_
      refine mw_cI (fun _ => rfl) (show mu_is Hs (some 91) 3 from hps.1.is rfl) (jg_joined (d := (d + 1)) (b := tp - min p tp) (p := min p tp) hps.1 (by rw [hjn]; omega) (by omega) (rw_get Hs (m + 1) 2 (gi_sz Hs (m + 1)) (nI k) 0) al) (fun x10 H10 q10 => ?_)
      obtain rfl := q10
      refine mw_go mu_g190 (k := 2) (f1 := (92, [(10, .inl x10), (9, .inl (nI (min p tp))), (8, .inl (rw_get Hs (m + 1) 2 (gi_sz Hs (m + 1)) (nI k) 1)), (7, .inl (rw_get Hs (m + 1) 2 (gi_sz Hs (m + 1)) (nI k) 0)), (5, .inl (nI tp)), (6, .inl (nI k)), (0, .inr (.inr (some 91))), (1, .inl (nI f)), (2, .inl (nI t)), (3, .inl w), (4, .inl al)], [.inl x10], Hs)) (C := []) rfl trivial ?_
      refine mw_if (P := x10 = 0) (a := 95) (b := 97) (fun _ => rfl) trivial (fun h11 => ?_) (fun h11 => ?_)
      · -- 95: x10 = 0
        refine mw_go mu_g190 (k := 1) (f1 := (96, [(10, .inl x10), (9, .inl (nI (min p tp))), (8, .inl (rw_get Hs (m + 1) 2 (gi_sz Hs (m + 1)) (nI k) 1)), (7, .inl (rw_get Hs (m + 1) 2 (gi_sz Hs (m + 1)) (nI k) 0)), (5, .inl (nI tp)), (6, .inl (nI k)), (0, .inr (.inr (some 91))), (1, .inl (nI f)), (2, .inl (nI t)), (3, .inl w), (4, .inl al)], [.inl (0 : Int32)], Hs)) (C := []) rfl trivial ?_
        exact mw_of (fun _ => mu_ret rfl trivial ⟨_, Hs, rfl, hps, hts⟩)
      · -- 97: not x10 = 0
        refine mw_go mu_g190 (k := 3) (f1 := (102, [(10, .inl x10), (9, .inl (nI (min p tp))), (8, .inl (rw_get Hs (m + 1) 2 (gi_sz Hs (m + 1)) (nI k) 1)), (7, .inl (rw_get Hs (m + 1) 2 (gi_sz Hs (m + 1)) (nI k) 0)), (5, .inl (nI tp)), (6, .inl (nI k)), (0, .inr (.inr (some 91))), (1, .inl (nI f)), (2, .inl (nI t)), (3, .inl w), (4, .inl al)], [.inl ((nI tp) - (nI (min p tp)))], Hs)) (C := []) rfl trivial ?_
        rw [show nI tp - nI (min p tp) = nI (tp - min p tp) from pk_sub (by omega)]
        refine mw_go mu_g190 (k := 5) (f1 := (112, [(5, .inl (nI (tp - min p tp))), (10, .inl x10), (9, .inl (nI (min p tp))), (8, .inl (rw_get Hs (m + 1) 2 (gi_sz Hs (m + 1)) (nI k) 1)), (7, .inl (rw_get Hs (m + 1) 2 (gi_sz Hs (m + 1)) (nI k) 0)), (6, .inl (nI k)), (0, .inr (.inr (some 91))), (1, .inl (nI f)), (2, .inl (nI t)), (3, .inl w), (4, .inl al)], [.inl x10, .inl (nI (tp - min p tp)), .inr (.inr (mu_r Hs 91 2))], Hs)) (C := [mu_is Hs (some 91) 3]) rfl (show mu_is Hs (some 91) 3 from hps.1.is rfl) ?_
        refine mw_go mu_g190 (k := 1) (f1 := (113, [(5, .inl (nI (tp - min p tp))), (10, .inl x10), (9, .inl (nI (min p tp))), (8, .inl (rw_get Hs (m + 1) 2 (gi_sz Hs (m + 1)) (nI k) 1)), (7, .inl (rw_get Hs (m + 1) 2 (gi_sz Hs (m + 1)) (nI k) 0)), (6, .inl (nI k)), (0, .inr (.inr (some 91))), (1, .inl (nI f)), (2, .inl (nI t)), (3, .inl w), (4, .inl al)], [], (mu_si Hs (mu_p (mu_r Hs 91 2)) (nI (tp - min p tp)).toNatClampNeg x10))) (C := [mu_is Hs (mu_r Hs 91 2) 100, vp_in (nI (tp - min p tp)) (mu_n Hs (mu_p (mu_r Hs 91 2)))]) rfl ⟨hps.1.o (p := 91) (j := 2) rfl, (show vp_in (nI (tp - min p tp)) (jn Hs) from vp_in_nI (by rw [(hts.len h.1)]; omega) (by have := jn_le hps.1; omega))⟩ ?_
        obtain ⟨hp12, qt12⟩ := hps.store (i := (nI (tp - min p tp)).toNatClampNeg) (x := x10)
        have ht12 := hts.trans qt12
        generalize (mu_si Hs (mu_p (mu_r Hs 91 2)) (nI (tp - min p tp)).toNatClampNeg x10) = H12 at hp12 qt12 ht12 ⊢
        refine mw_go mu_g190 (k := 3) (f1 := (6, [(6, .inl ((nI k) + 1)), (5, .inl ((nI (tp - min p tp)) + 1)), (10, .inl x10), (9, .inl (nI (min p tp))), (8, .inl (rw_get Hs (m + 1) 2 (gi_sz Hs (m + 1)) (nI k) 1)), (7, .inl (rw_get Hs (m + 1) 2 (gi_sz Hs (m + 1)) (nI k) 0)), (0, .inr (.inr (some 91))), (1, .inl (nI f)), (2, .inl (nI t)), (3, .inl w), (4, .inl al)], [], H12)) (C := []) rfl trivial ?_
        rw [nI_1, nI_1]
        exact mw_sub (by simp) (ihJ (tp - min p tp + 1, k + 1, H12) ⟨hp12, ht12, (show tp - min p tp + 1 ≤ k + 1 - f by omega), (show f ≤ k + 1 by omega), (show k + 1 ≤ max f t by omega)⟩ (by show t - (k + 1) < t - k; omega))
  · -- 122: not (nI k) < (nI t)
    refine mw_go mu_g190 (k := 4) (f1 := (128, [(5, .inl (nI tp)), (6, .inl (nI k)), (0, .inr (.inr (some 91))), (1, .inl (nI f)), (2, .inl (nI t)), (3, .inl w), (4, .inl al)], [.inl (mu_i Hs (mu_p (mu_r Hs 91 2)) (0 : Int32).toNatClampNeg)], Hs)) (C := [mu_is Hs (some 91) 3, mu_isr Hs (mu_r Hs 91 2) 100, vp_in (0 : Int32) (mu_n Hs (mu_p (mu_r Hs 91 2)))]) rfl (show (mu_is Hs (some 91) 3) ∧ (mu_isr Hs (mu_r Hs 91 2) 100) ∧ (vp_in (0 : Int32) (mu_n Hs (mu_p (mu_r Hs 91 2)))) from ⟨hps.1.is rfl, (hps.1.o (p := 91) (j := 2) rfl).r, (show vp_in (nI 0) (jn Hs) from vp_in_nI (by rw [(hts.len h.1)]; omega) (by have := jn_le hps.1; omega))⟩) ?_
    exact mw_of (fun _ => mu_ret rfl trivial ⟨_, Hs, rfl, hps, hts⟩)
end JudgeStack
