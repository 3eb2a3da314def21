/-! THE LEXER: where it stands on the tape; numbers, words, signs -/
section LexTape
variable {H H1 H2 : mu_H} {t n a : Nat}
/-- the Lexer reads the first n bytes of the tape at t -/
def ls (t n : Nat) (H : mu_H) : Prop := lw H ∧ mu_r H 81 0 = some t ∧ mu_is H (some t) 101 ∧ t ≠ lt7 H ∧ (n ≤ mu_n H t ∧ mu_n H t ≤ 16777216) ∧ mu_i H 81 1 = nI n ∧ mu_i H 81 2 = nI (la H) ∧ la H ≤ n
/-- only ints of the Lexer have changed, and of them those of J -/
def lo (J : List Nat) (H H1 : mu_H) : Prop := mu_onl H H1 81 ∧ ∀ j, j ∉ J → mu_i H1 81 j = mu_i H 81 j
theorem lo.refl (J : List Nat) (H : mu_H) : lo J H H := ⟨mu_onl.refl H 81, fun _ _ => rfl⟩
theorem lo.si {J : List Nat} (h : lo J H H1) {j : Nat} {x : Int32} (hj : j ∈ J) : lo J H (mu_si H1 81 j x) := ⟨h.1.si j x, fun i hi => by
  rw [mu_i_si, if_neg (fun z => hi (by rw [z.2]; exact hj))]
  exact h.2 i hi⟩
theorem lo.r {J : List Nat} (h : lo J H H1) (p j : Nat) : mu_r H1 p j = mu_r H p j := by unfold mu_r; rw [h.1.2.2.2]
theorem lo.nn {J : List Nat} (h : lo J H H1) (p : Nat) : mu_n H1 p = mu_n H p := congrFun h.1.2.1 p
theorem lo.i {J : List Nat} (h : lo J H H1) {p : Nat} (hp : p ≠ 81) (j : Nat) : mu_i H1 p j = mu_i H p j := h.1.2.2.1 p j hp
theorem lo.ground {J : List Nat} (hg : gi H) (h : lo J H H1) : gi H1 := hg.onl2 h.1 (fun r W hr e => by rw [e] at hr; cases hr) (fun hk => by have : mu_k H 81 = 4 := hg.2.1 81 4 rfl; omega)
/-- what steps of the Lexer leave, but for its ints -/
def sf (H H1 : mu_H) : Prop := lk ls_S H H1 ∧ (∀ j, j ≠ 7 → mu_r H1 81 j = mu_r H 81 j) ∧ (mu_same H H1 82 ∧ mu_same H H1 (mu_p (mu_r H 82 1))) ∧
  lu H ≤ lu H1 ∧ gi_sz H 86 ≤ gi_sz H1 86 ∧ mu_n H1 (lt7 H1) ≤ max (mu_n H (lt7 H)) (3 * lu H1) ∧ gi_cap H1 86 ≤ max (gi_cap H 86) (2 * (gi_sz H1 86 * 4) + 4)
theorem lf.sf (h : lf H H1) : sf H H1 := ⟨h.1, h.2.1, h.2.2.2⟩
theorem sf.refl (H : mu_H) : sf H H := (lf.refl H).sf
theorem sf.trans (h : sf H H1) (h' : sf H1 H2) : sf H H2 := by
  obtain ⟨a, b, ⟨e1, e2⟩, f, g, i, j⟩ := h
  obtain ⟨a', b', ⟨e1', e2'⟩, f', g', i', j'⟩ := h'
  refine ⟨a.trans a', fun j hj => (b' j hj).trans (b j hj), ⟨e1.trans e1', ?_⟩, by omega, by omega, by omega, by omega⟩
  rw [e1.r] at e2'
  exact e2.trans e2'
theorem lo.tosf {J : List Nat} (hg : gi H) (h : lo J H H1) (h8 : 8 ∉ J) : sf H H1 ∧ lu H1 = lu H ∧ gi_sz H1 86 = gi_sz H 86 ∧ gi_sz H1 82 = gi_sz H 82 := by
  have eu : lu H1 = lu H := by unfold lu; rw [h.2 8 h8]
  have e7 : lt7 H1 = lt7 H := by unfold lt7; rw [h.r]
  have es : ∀ r, r ≠ 81 → gi_sz H1 r = gi_sz H r := fun r hr => by unfold gi_sz; rw [h.i hr]
  refine ⟨⟨lk.of (gk.onlo hg h.1 (k := 4) rfl rfl) (h.r 81 7), fun j _ => h.r 81 j, ⟨h.1.same (by decide), h.1.same (((hg.cell (r := 82) (W := 3) rfl).1 81 4 rfl).symm)⟩, Nat.le_of_eq eu.symm, Nat.le_of_eq (es 86 (by decide)).symm, ?_, ?_⟩, eu, es 86 (by decide), es 82 (by decide)⟩
  · rw [e7, h.nn]; exact Nat.le_max_left _ _
  · unfold gi_cap; rw [h.r, h.nn]; exact Nat.le_max_left _ _
theorem ls.lo {J : List Nat} (h : ls t n H) (ho : lo J H H1) (h1 : 1 ∉ J) (h8 : 8 ∉ J) {b : Nat} (hb : mu_i H1 81 2 = nI b) (hbn : b ≤ n) : ls t n H1 ∧ la H1 = b := by
  obtain ⟨a1, a2, a3, a4, a5, a6, a7, a8⟩ := h
  have hg := a1.1
  have g1 := lo.ground hg ho
  have e7 : lt7 H1 = lt7 H := by unfold lt7; rw [ho.r]
  have hlb : la H1 = b := by unfold la; rw [hb]; exact nI_clamp (by omega)
  have ek : ∀ p, mu_k H1 p = mu_k H p := fun p => congrFun ho.1.1 p
  have ez : mu_z H1 = mu_z H := by unfold mu_z; rw [ho.1.2.2.2]
  refine ⟨⟨a1.of g1 (ho.2 8 h8) (ho.r 81 7) (ho.nn _) (by unfold gi_sz; rw [ho.i (by decide)]) (fun i => ?_), by rw [ho.r]; exact a2, ⟨rfl, by rw [ez]; exact a3.2.1, by rw [ek]; exact a3.2.2⟩, by rw [e7]; exact a4, by rw [ho.nn]; exact a5, by rw [ho.2 1 h1]; exact a6, by rw [hlb]; exact hb, by rw [hlb]; exact hbn⟩, hlb⟩
  unfold cel
  rw [ho.r, ho.i (((hg.cell (r := 86) (W := 4) rfl).1 81 4 rfl).symm)]
theorem ls.t81 (h : ls t n H) : t ≠ 81 := fun e => by
  have h1 : mu_k H t = 101 := h.2.2.1.2.2
  have h2 : mu_k H 81 = 4 := h.1.1.2.1 81 4 rfl
  rw [e] at h1
  omega
theorem ls.at (h : ls t n H) : lx_at H 81 n (la H) := ⟨h.1.1.is rfl, by rw [h.2.1]; exact h.2.2.1.r, h.2.2.2.2.2.1, h.2.2.2.2.2.2.1, h.2.2.2.2.2.2.2, by rw [h.2.1]; exact h.2.2.2.2.1.1, by rw [h.2.1]; have := h.2.2.2.2.1.2; show mu_n H t < 2 ^ 31; omega, by have := h.2.2.2.2.1; omega⟩
/-- blanks are passed over -/
theorem ls_skip {d : Nat} (h : ls t n H) : mu_TV (mu_D (d + 1)) 43 [.inr (.inr (some 81))] H (fun H1 => ls t n H1 ∧ lo [2] H H1 ∧ la H ≤ la H1) :=
  (lx_skip_ok h.at).imp (fun H1 q => by
    obtain ⟨q1, q2, b, q3, q4⟩ := q
    obtain ⟨w1, w2⟩ := h.lo ⟨q1, q2⟩ (by decide) (by decide) q4.2.2.2.1 q4.2.2.2.2.1
    exact ⟨w1, ⟨q1, q2⟩, by omega⟩)
theorem tx_chr_ok (b : Int32) : ∃ j, j < 256 ∧ tx_chr b = nI j := by
  obtain ⟨j, h1, h2⟩ := pk_andE b (m := 255) 8 rfl
  refine ⟨j, h1, ?_⟩
  unfold tx_chr
  rw [h2]
  exact (show ∀ j : Fin 256, ((nI j.1).toUInt32 % 65536).toInt32 = nI j.1 by decide +kernel) ⟨j, h1⟩
end LexTape
section LexTape2
variable {H : mu_H} {d t n : Nat}
theorem ls_num (h : ls t n H) (hlt : la H < n) (hdig : ¬ lx_digit (mu_i H t (la H)) = 0) : mu_TV (mu_D (d + 2)) 122 [.inr (.inr (some 81))] H (fun H1 => ls t n H1 ∧ lo [2, 3, 4] H H1 ∧ la H + 1 ≤ la H1) := by
  refine mu_meth (M := mu_m122) rfl rfl ?_
  refine mw_ht (mu_fn_of (show [0].Nodup by decide)) ?_
  refine mw_down (α := mu_H × Nat) (fun zs => (0, [(0, .inr (.inr (some 81)))], [], zs.1)) (fun zs => n - zs.2) (fun zs => ls t n zs.1 ∧ la zs.1 = zs.2 ∧ lo [2, 3, 4] H zs.1 ∧ la H ≤ zs.2) (fun zs hz ih => ?_) (H, la H) ⟨h, rfl, lo.refl _ H, Nat.le_refl _⟩
  obtain ⟨Hs, b⟩ := zs
  obtain ⟨hs, hlb, hlo, hab⟩ := hz
  have hs : ls t n Hs := hs
  have hlb : la Hs = b := hlb
  have hlo : lo [2, 3, 4] H Hs := hlo
  have hab : la H ≤ b := hab
  have hb2 : mu_i Hs 81 2 = nI b := by rw [← hlb]; exact hs.2.2.2.2.2.2.1
  have hn1 : mu_i Hs 81 1 = nI n := hs.2.2.2.2.2.1
  have hbn0 : b ≤ n := by have := hs.2.2.2.2.2.2.2; omega
  have ht24 := hs.2.2.2.2.1
  have hmt : ∀ j, mu_i Hs t j = mu_i H t j := fun j => hlo.i h.t81 j
  show mu_W _ _ (0, [(0, .inr (.inr (some 81)))], [], Hs) _
  refine mw_go mu_g122 (k := 2) (f1 := (4, [(0, .inr (.inr (some 81)))], [.inl (mu_i Hs 81 2)], Hs)) (C := [mu_is Hs (some 81) 4]) rfl (show mu_is Hs (some 81) 4 from hs.1.1.is rfl) ?_
  rw [hb2]
  refine mw_go mu_g122 (k := 2) (f1 := (8, [(0, .inr (.inr (some 81)))], [.inl (mu_i Hs 81 1), .inl (nI b)], Hs)) (C := [mu_is Hs (some 81) 4]) rfl (show mu_is Hs (some 81) 4 from hs.1.1.is rfl) ?_
  rw [hn1]
  refine mw_if (P := (nI b) < (nI n)) (a := 11) (b := 68) (fun _ => rfl) trivial (fun h1 => ?_) (fun h1 => ?_)
  · -- 11: (nI b) < (nI n)
    have hbn : b < n := (nI_ltI (by omega) (by omega)).mp h1
    refine mw_go mu_g122 (k := 2) (f1 := (15, [(0, .inr (.inr (some 81)))], [.inr (.inr (mu_r Hs 81 0))], Hs)) (C := [mu_is Hs (some 81) 4]) rfl (show mu_is Hs (some 81) 4 from hs.1.1.is rfl) ?_
    rw [hs.2.1]
    refine mw_go mu_g122 (k := 2) (f1 := (19, [(0, .inr (.inr (some 81)))], [.inl (mu_i Hs 81 2), .inr (.inr (some t))], Hs)) (C := [mu_is Hs (some 81) 4]) rfl (show mu_is Hs (some 81) 4 from hs.1.1.is rfl) ?_
    rw [hb2]
    refine mw_go mu_g122 (k := 1) (f1 := (20, [(0, .inr (.inr (some 81)))], [.inl (mu_i Hs t (nI b).toNatClampNeg)], Hs)) (C := [mu_isr Hs (some t) 101, vp_in (nI b) (mu_n Hs t)]) rfl (show (mu_isr Hs (some t) 101) ∧ (vp_in (nI b) (mu_n Hs t)) from ⟨hs.2.2.1.r, (vp_in_nI (by omega) (by omega))⟩) ?_
    refine mw_cIe (fun _ => rfl) trivial (lx_digit_ok (d := d) (mu_i Hs t (nI b).toNatClampNeg)) ?_
    refine mw_if (P := (lx_digit (mu_i Hs t (nI b).toNatClampNeg)) = 0) (a := 68) (b := 26) (fun _ => rfl) trivial (fun h3 => ?_) (fun h3 => ?_)
    · -- 68: (lx_digit (mu_i Hs t (nI b).toNatClampNeg)) = 0
      have hge : la H + 1 ≤ b := by
        rcases Nat.lt_or_eq_of_le hab with z | z
        · exact z
        · exfalso
          rw [nI_clamp (by omega), hmt, ← z] at h3
          exact hdig h3
      refine mw_go mu_g122 (k := 4) (f1 := (76, [(0, .inr (.inr (some 81)))], [.inl (32767 : Int32), .inl (mu_i Hs 81 4), .inr (.inr (some 81))], Hs)) (C := [mu_is Hs (some 81) 4]) rfl (show mu_is Hs (some 81) 4 from hs.1.1.is rfl) ?_
      refine mw_if (P := (32767 : Int32) < (mu_i Hs 81 4)) (a := 79) (b := 84) (fun _ => rfl) trivial (fun h4 => ?_) (fun h4 => ?_)
      · -- 79: (32767 : Int32) < (mu_i Hs 81 4)
        refine mw_go mu_g122 (k := 3) (f1 := (89, [(0, .inr (.inr (some 81)))], [], (mu_si Hs 81 3 (115 : Int32)))) (C := [mu_is Hs (some 81) 4]) rfl (show mu_is Hs (some 81) 4 from hs.1.1.is rfl) ?_
        obtain ⟨w1, w2⟩ := hs.lo (lo.si (j := 3) (x := (115 : Int32)) (lo.refl [2, 3, 4] Hs) (by decide)) (by decide) (by decide) (b := b) hb2 hbn0
        exact mw_of (fun _ => mu_ret rfl trivial ⟨(mu_si Hs 81 3 (115 : Int32)), rfl, w1, hlo.si (by decide), by omega⟩)
      · -- 84: not (32767 : Int32) < (mu_i Hs 81 4)
        refine mw_go mu_g122 (k := 2) (f1 := (89, [(0, .inr (.inr (some 81)))], [], (mu_si Hs 81 3 (113 : Int32)))) (C := [mu_is Hs (some 81) 4]) rfl (show mu_is Hs (some 81) 4 from hs.1.1.is rfl) ?_
        obtain ⟨w1, w2⟩ := hs.lo (lo.si (j := 3) (x := (113 : Int32)) (lo.refl [2, 3, 4] Hs) (by decide)) (by decide) (by decide) (b := b) hb2 hbn0
        exact mw_of (fun _ => mu_ret rfl trivial ⟨(mu_si Hs 81 3 (113 : Int32)), rfl, w1, hlo.si (by decide), by omega⟩)
    · -- 26: not (lx_digit (mu_i Hs t (nI b).toNatClampNeg)) = 0
      refine mw_go mu_g122 (k := 7) (f1 := (38, [(0, .inr (.inr (some 81)))], [.inr (.inr (mu_r Hs 81 0)), .inl ((mu_i Hs 81 4) * (10 : Int32)), .inr (.inr (some 81))], Hs)) (C := [mu_is Hs (some 81) 4, mu_is Hs (some 81) 4]) rfl (show (mu_is Hs (some 81) 4) ∧ (mu_is Hs (some 81) 4) from ⟨hs.1.1.is rfl, hs.1.1.is rfl⟩) ?_
      rw [hs.2.1]
      refine mw_go mu_g122 (k := 2) (f1 := (42, [(0, .inr (.inr (some 81)))], [.inl (mu_i Hs 81 2), .inr (.inr (some t)), .inl ((mu_i Hs 81 4) * (10 : Int32)), .inr (.inr (some 81))], Hs)) (C := [mu_is Hs (some 81) 4]) rfl (show mu_is Hs (some 81) 4 from hs.1.1.is rfl) ?_
      rw [hb2]
      refine mw_go mu_g122 (k := 5) (f1 := (49, [(0, .inr (.inr (some 81)))], [.inl (65536 : Int32), .inl ((((mu_i Hs 81 4) * (10 : Int32)) + (mu_i Hs t (nI b).toNatClampNeg)) - (48 : Int32)), .inr (.inr (some 81))], Hs)) (C := [mu_isr Hs (some t) 101, vp_in (nI b) (mu_n Hs t)]) rfl (show (mu_isr Hs (some t) 101) ∧ (vp_in (nI b) (mu_n Hs t)) from ⟨hs.2.2.1.r, (vp_in_nI (by omega) (by omega))⟩) ?_
      refine mw_cIe (fun _ => rfl) trivial (mu_min_ok (d := d) ((((mu_i Hs 81 4) * (10 : Int32)) + (mu_i Hs t (nI b).toNatClampNeg)) - (48 : Int32)) (65536 : Int32)) ?_
      refine mw_go mu_g122 (k := 4) (f1 := (60, [(0, .inr (.inr (some 81)))], [.inl (mu_i Hs 81 2), .inr (.inr (some 81))], (mu_si Hs 81 4 (mu_min ((((mu_i Hs 81 4) * (10 : Int32)) + (mu_i Hs t (nI b).toNatClampNeg)) - (48 : Int32)) (65536 : Int32))))) (C := [mu_is Hs (some 81) 4, mu_is (mu_si Hs 81 4 (mu_min ((((mu_i Hs 81 4) * (10 : Int32)) + (mu_i Hs t (nI b).toNatClampNeg)) - (48 : Int32)) (65536 : Int32))) (some 81) 4]) rfl (show (mu_is Hs (some 81) 4) ∧ (mu_is (mu_si Hs 81 4 (mu_min ((((mu_i Hs 81 4) * (10 : Int32)) + (mu_i Hs t (nI b).toNatClampNeg)) - (48 : Int32)) (65536 : Int32))) (some 81) 4) from ⟨hs.1.1.is rfl, hs.1.1.is rfl⟩) ?_
      rw [hb2]
      refine mw_go mu_g122 (k := 4) (f1 := (0, [(0, .inr (.inr (some 81)))], [], (mu_si (mu_si Hs 81 4 (mu_min ((((mu_i Hs 81 4) * (10 : Int32)) + (mu_i Hs t (nI b).toNatClampNeg)) - (48 : Int32)) (65536 : Int32))) 81 2 ((nI b) + (1 : Int32))))) (C := [mu_is (mu_si Hs 81 4 (mu_min ((((mu_i Hs 81 4) * (10 : Int32)) + (mu_i Hs t (nI b).toNatClampNeg)) - (48 : Int32)) (65536 : Int32))) (some 81) 4]) rfl (show mu_is (mu_si Hs 81 4 (mu_min ((((mu_i Hs 81 4) * (10 : Int32)) + (mu_i Hs t (nI b).toNatClampNeg)) - (48 : Int32)) (65536 : Int32))) (some 81) 4 from hs.1.1.is rfl) ?_
      rw [nI_1]
      obtain ⟨w1, w2⟩ := hs.lo (lo.si (j := 2) (x := nI (b + 1)) (lo.si (j := 4) (x := (mu_min ((((mu_i Hs 81 4) * (10 : Int32)) + (mu_i Hs t (nI b).toNatClampNeg)) - (48 : Int32)) (65536 : Int32))) (lo.refl [2, 3, 4] Hs) (by decide)) (by decide)) (by decide) (by decide) (b := b + 1) rfl (by omega)
      exact ih ((mu_si (mu_si Hs 81 4 (mu_min ((((mu_i Hs 81 4) * (10 : Int32)) + (mu_i Hs t (nI b).toNatClampNeg)) - (48 : Int32)) (65536 : Int32))) 81 2 (nI (b + 1))), b + 1) ⟨w1, w2, (hlo.si (by decide)).si (by decide), by show la H ≤ b + 1; omega⟩ (by show n - (b + 1) < n - b; omega)
  · -- 68: not (nI b) < (nI n)
    have hbn : ¬ b < n := fun z => h1 (nI_lt z (by omega))
    have hge : la H + 1 ≤ b := by omega
    refine mw_go mu_g122 (k := 4) (f1 := (76, [(0, .inr (.inr (some 81)))], [.inl (32767 : Int32), .inl (mu_i Hs 81 4), .inr (.inr (some 81))], Hs)) (C := [mu_is Hs (some 81) 4]) rfl (show mu_is Hs (some 81) 4 from hs.1.1.is rfl) ?_
    refine mw_if (P := (32767 : Int32) < (mu_i Hs 81 4)) (a := 79) (b := 84) (fun _ => rfl) trivial (fun h6 => ?_) (fun h6 => ?_)
    · -- 79: (32767 : Int32) < (mu_i Hs 81 4)
      refine mw_go mu_g122 (k := 3) (f1 := (89, [(0, .inr (.inr (some 81)))], [], (mu_si Hs 81 3 (115 : Int32)))) (C := [mu_is Hs (some 81) 4]) rfl (show mu_is Hs (some 81) 4 from hs.1.1.is rfl) ?_
      obtain ⟨w1, w2⟩ := hs.lo (lo.si (j := 3) (x := (115 : Int32)) (lo.refl [2, 3, 4] Hs) (by decide)) (by decide) (by decide) (b := b) hb2 hbn0
      exact mw_of (fun _ => mu_ret rfl trivial ⟨(mu_si Hs 81 3 (115 : Int32)), rfl, w1, hlo.si (by decide), by omega⟩)
    · -- 84: not (32767 : Int32) < (mu_i Hs 81 4)
      refine mw_go mu_g122 (k := 2) (f1 := (89, [(0, .inr (.inr (some 81)))], [], (mu_si Hs 81 3 (113 : Int32)))) (C := [mu_is Hs (some 81) 4]) rfl (show mu_is Hs (some 81) 4 from hs.1.1.is rfl) ?_
      obtain ⟨w1, w2⟩ := hs.lo (lo.si (j := 3) (x := (113 : Int32)) (lo.refl [2, 3, 4] Hs) (by decide)) (by decide) (by decide) (b := b) hb2 hbn0
      exact mw_of (fun _ => mu_ret rfl trivial ⟨(mu_si Hs 81 3 (113 : Int32)), rfl, w1, hlo.si (by decide), by omega⟩)
/-- PathProver$Lexer.word()V -/
abbrev mu_m120 : ev_M := (2, none, [], ev_b120)
theorem mu_g120 : mu_good mu_m120 := mu_goodk ev_k120
theorem ls_word (h : ls t n H) (hlt : la H < n) (hlet : ¬ lx_letter (mu_i H t (la H)) = 0) (hsz : (gi_sz H 86 + 1) * 4 ≤ 4194304) (hu : lu H + n ≤ 4000000) : mu_TV (mu_D (d + 6)) 120 [.inr (.inr (some 81))] H (fun H1 => ls t n H1 ∧ sf H H1 ∧ la H + 1 ≤ la H1 ∧ lu H1 + la H ≤ lu H + la H1 ∧ gi_sz H1 86 ≤ gi_sz H 86 + 1) := by
  refine mu_meth (M := mu_m120) rfl rfl ?_
  refine mw_ht (mu_fn_of (show [0].Nodup by decide)) ?_
  refine mw_go mu_g120 (k := 3) (f1 := (5, [(1, .inl (mu_i H 81 2)), (0, .inr (.inr (some 81)))], [], H)) (C := [mu_is H (some 81) 4]) rfl (show mu_is H (some 81) 4 from h.1.1.is rfl) ?_
  rw [h.2.2.2.2.2.2.1]
  refine mw_down (α := mu_H × Nat) (fun zs => (5, [(1, .inl (nI (la H))), (0, .inr (.inr (some 81)))], [], zs.1)) (fun zs => n - zs.2) (fun zs => ls t n zs.1 ∧ la zs.1 = zs.2 ∧ lo [2] H zs.1 ∧ la H ≤ zs.2) (fun zs hz ih => ?_) (H, la H) ⟨h, rfl, lo.refl _ H, Nat.le_refl _⟩
  obtain ⟨Hs, b⟩ := zs
  obtain ⟨hs, hlb, hlo, hab⟩ := hz
  have hs : ls t n Hs := hs
  have hlb : la Hs = b := hlb
  have hlo : lo [2] H Hs := hlo
  have hab : la H ≤ b := hab
  have hb2 : mu_i Hs 81 2 = nI b := by rw [← hlb]; exact hs.2.2.2.2.2.2.1
  have hn1 : mu_i Hs 81 1 = nI n := hs.2.2.2.2.2.1
  have hbn0 : b ≤ n := by have := hs.2.2.2.2.2.2.2; omega
  have ht24 := hs.2.2.2.2.1
  have hmt : ∀ j, mu_i Hs t j = mu_i H t j := fun j => hlo.i h.t81 j
  show mu_W _ _ (5, [(1, .inl (nI (la H))), (0, .inr (.inr (some 81)))], [], Hs) _
  refine mw_go mu_g120 (k := 2) (f1 := (9, [(1, .inl (nI (la H))), (0, .inr (.inr (some 81)))], [.inl (mu_i Hs 81 2)], Hs)) (C := [mu_is Hs (some 81) 4]) rfl (show mu_is Hs (some 81) 4 from hs.1.1.is rfl) ?_
  rw [hb2]
  refine mw_go mu_g120 (k := 2) (f1 := (13, [(1, .inl (nI (la H))), (0, .inr (.inr (some 81)))], [.inl (mu_i Hs 81 1), .inl (nI b)], Hs)) (C := [mu_is Hs (some 81) 4]) rfl (show mu_is Hs (some 81) 4 from hs.1.1.is rfl) ?_
  rw [hn1]
  refine mw_if (P := (nI b) < (nI n)) (a := 16) (b := 62) (fun _ => rfl) trivial (fun h1 => ?_) (fun h1 => ?_)
  · -- 16: (nI b) < (nI n)
    have hbn : b < n := (nI_ltI (by omega) (by omega)).mp h1
    refine mw_go mu_g120 (k := 2) (f1 := (20, [(1, .inl (nI (la H))), (0, .inr (.inr (some 81)))], [.inr (.inr (mu_r Hs 81 0))], Hs)) (C := [mu_is Hs (some 81) 4]) rfl (show mu_is Hs (some 81) 4 from hs.1.1.is rfl) ?_
    rw [hs.2.1]
    refine mw_go mu_g120 (k := 2) (f1 := (24, [(1, .inl (nI (la H))), (0, .inr (.inr (some 81)))], [.inl (mu_i Hs 81 2), .inr (.inr (some t))], Hs)) (C := [mu_is Hs (some 81) 4]) rfl (show mu_is Hs (some 81) 4 from hs.1.1.is rfl) ?_
    rw [hb2]
    refine mw_go mu_g120 (k := 1) (f1 := (25, [(1, .inl (nI (la H))), (0, .inr (.inr (some 81)))], [.inl (mu_i Hs t (nI b).toNatClampNeg)], Hs)) (C := [mu_isr Hs (some t) 101, vp_in (nI b) (mu_n Hs t)]) rfl (show (mu_isr Hs (some t) 101) ∧ (vp_in (nI b) (mu_n Hs t)) from ⟨hs.2.2.1.r, (vp_in_nI (by omega) (by omega))⟩) ?_
    refine mw_cIe (fun _ => rfl) trivial (lx_letter_ok (d := (d + 4)) (mu_i Hs t (nI b).toNatClampNeg)) ?_
    refine mw_if (P := (lx_letter (mu_i Hs t (nI b).toNatClampNeg)) = 0) (a := 31) (b := 49) (fun _ => rfl) trivial (fun h3 => ?_) (fun h3 => ?_)
    · -- 31: (lx_letter (mu_i Hs t (nI b).toNatClampNeg)) = 0
      have hge : la H + 1 ≤ b := by
        rcases Nat.lt_or_eq_of_le hab with z | z
        · exact z
        · exfalso
          rw [nI_clamp (by omega), hmt, ← z] at h3
          exact hlet h3
      refine mw_go mu_g120 (k := 2) (f1 := (35, [(1, .inl (nI (la H))), (0, .inr (.inr (some 81)))], [.inr (.inr (mu_r Hs 81 0))], Hs)) (C := [mu_is Hs (some 81) 4]) rfl (show mu_is Hs (some 81) 4 from hs.1.1.is rfl) ?_
      rw [hs.2.1]
      refine mw_go mu_g120 (k := 2) (f1 := (39, [(1, .inl (nI (la H))), (0, .inr (.inr (some 81)))], [.inl (mu_i Hs 81 2), .inr (.inr (some t))], Hs)) (C := [mu_is Hs (some 81) 4]) rfl (show mu_is Hs (some 81) 4 from hs.1.1.is rfl) ?_
      rw [hb2]
      refine mw_go mu_g120 (k := 1) (f1 := (40, [(1, .inl (nI (la H))), (0, .inr (.inr (some 81)))], [.inl (mu_i Hs t (nI b).toNatClampNeg)], Hs)) (C := [mu_isr Hs (some t) 101, vp_in (nI b) (mu_n Hs t)]) rfl (show (mu_isr Hs (some t) 101) ∧ (vp_in (nI b) (mu_n Hs t)) from ⟨hs.2.2.1.r, (vp_in_nI (by omega) (by omega))⟩) ?_
      refine mw_cIe (fun _ => rfl) trivial (lx_digit_ok (d := (d + 4)) (mu_i Hs t (nI b).toNatClampNeg)) ?_
      refine mw_if (P := (lx_digit (mu_i Hs t (nI b).toNatClampNeg)) = 0) (a := 46) (b := 49) (fun _ => rfl) trivial (fun h5 => ?_) (fun h5 => ?_)
      · -- 46: (lx_digit (mu_i Hs t (nI b).toNatClampNeg)) = 0
        refine mw_go mu_g120 (k := 1) (f1 := (62, [(1, .inl (nI (la H))), (0, .inr (.inr (some 81)))], [], Hs)) (C := []) rfl trivial ?_
        have hsf := lo.tosf h.1.1 hlo (by decide)
        refine mw_go mu_g120 (k := 4) (f1 := (68, [(1, .inl (nI (la H))), (0, .inr (.inr (some 81)))], [.inr (.inr (mu_r Hs 81 0)), .inr (.inr (some 81)), .inr (.inr (some 81))], Hs)) (C := [mu_is Hs (some 81) 4]) rfl (show mu_is Hs (some 81) 4 from hs.1.1.is rfl) ?_
        rw [hs.2.1]
        refine mw_go mu_g120 (k := 3) (f1 := (73, [(1, .inl (nI (la H))), (0, .inr (.inr (some 81)))], [.inl (mu_i Hs 81 2), .inl (nI (la H)), .inr (.inr (some t)), .inr (.inr (some 81)), .inr (.inr (some 81))], Hs)) (C := [mu_is Hs (some 81) 4]) rfl (show mu_is Hs (some 81) 4 from hs.1.1.is rfl) ?_
        rw [hb2]
        refine mw_cI (fun _ => rfl) (show mu_is Hs (some 81) 4 from hs.1.1.is rfl) (lx_num (d := d) (s := la H) (e := b) hs.1 hs.2.2.1 hab (by omega) ht24.2 (by rw [hsf.2.2.1]; exact hsz) (by rw [hsf.2.1]; omega)) (fun x6 H6 q6 => ?_)
        obtain ⟨w1, w2, w3, w4⟩ := q6
        refine mw_go mu_g120 (k := 5) (f1 := (86, [(1, .inl (nI (la H))), (0, .inr (.inr (some 81)))], [.inl (28 : Int32), .inl x6, .inr (.inr (some 81))], (mu_si H6 81 4 x6))) (C := [mu_is H6 (some 81) 4, mu_is (mu_si H6 81 4 x6) (some 81) 4]) rfl (show (mu_is H6 (some 81) 4) ∧ (mu_is (mu_si H6 81 4 x6) (some 81) 4) from ⟨w1.1.is rfl, w1.1.is rfl⟩) ?_
        refine mw_if (P := x6 < (28 : Int32)) (a := 89) (b := 96) (fun _ => rfl) trivial (fun h7 => ?_) (fun h7 => ?_)
        · -- 89: x6 < (28 : Int32)
          refine mw_go mu_g120 (k := 4) (f1 := (101, [(1, .inl (nI (la H))), (0, .inr (.inr (some 81)))], [], (mu_si (mu_si H6 81 4 x6) 81 3 x6))) (C := [mu_is (mu_si H6 81 4 x6) (some 81) 4, mu_is (mu_si H6 81 4 x6) (some 81) 4]) rfl (show (mu_is (mu_si H6 81 4 x6) (some 81) 4) ∧ (mu_is (mu_si H6 81 4 x6) (some 81) 4) from ⟨w1.1.is rfl, w1.1.is rfl⟩) ?_
          have hI : ∀ j, j ≠ 8 → mu_i H6 81 j = mu_i Hs 81 j := w2.2.2.1
          have hls : ls t n H6 := by
            obtain ⟨a1, a2, a3, a4, a5, a6, a7, a8⟩ := hs
            have ela : la H6 = la Hs := by unfold la; rw [hI 2 (by decide)]
            refine ⟨w1, by rw [w2.2.1 0 (by decide)]; exact a2, w2.1.is a3, ?_, by rw [(w2.1.2.1 t a3.2.1).2]; exact a5, by rw [hI 1 (by decide)]; exact a6, by rw [hI 2 (by decide), ela]; exact a7, by rw [ela]; exact a8⟩
            rcases w2.1.2.2.2.2.2.2.2.2 with z | z
            · rw [z]; exact a4
            · have := a3.2.1; intro e; have h9 : t < mu_z Hs := this; omega
          have ela : la H6 = b := by rw [show la H6 = la Hs from by unfold la; rw [hI 2 (by decide)]]; exact hlb
          have hb3 : mu_i H6 81 2 = nI b := by rw [hI 2 (by decide)]; exact hb2
          have hlo2 : lo [3, 4] H6 (mu_si (mu_si H6 81 4 x6) 81 3 x6) := lo.si (lo.si (lo.refl [3, 4] H6) (by decide)) (by decide)
          obtain ⟨y1, y2⟩ := hls.lo hlo2 (by decide) (by decide) (b := b) hb3 hbn0
          obtain ⟨z1, z2, z3, z4⟩ := lo.tosf w1.1 hlo2 (by decide)
          exact mw_of (fun _ => mu_ret rfl trivial ⟨(mu_si (mu_si H6 81 4 x6) 81 3 x6), rfl, y1, (hsf.1.trans w2.sf).trans z1, by omega, by omega, by omega⟩)
        · -- 96: not x6 < (28 : Int32)
          refine mw_go mu_g120 (k := 2) (f1 := (101, [(1, .inl (nI (la H))), (0, .inr (.inr (some 81)))], [], (mu_si (mu_si H6 81 4 x6) 81 3 (112 : Int32)))) (C := [mu_is (mu_si H6 81 4 x6) (some 81) 4]) rfl (show mu_is (mu_si H6 81 4 x6) (some 81) 4 from w1.1.is rfl) ?_
          have hI : ∀ j, j ≠ 8 → mu_i H6 81 j = mu_i Hs 81 j := w2.2.2.1
          have hls : ls t n H6 := by
            obtain ⟨a1, a2, a3, a4, a5, a6, a7, a8⟩ := hs
            have ela : la H6 = la Hs := by unfold la; rw [hI 2 (by decide)]
            refine ⟨w1, by rw [w2.2.1 0 (by decide)]; exact a2, w2.1.is a3, ?_, by rw [(w2.1.2.1 t a3.2.1).2]; exact a5, by rw [hI 1 (by decide)]; exact a6, by rw [hI 2 (by decide), ela]; exact a7, by rw [ela]; exact a8⟩
            rcases w2.1.2.2.2.2.2.2.2.2 with z | z
            · rw [z]; exact a4
            · have := a3.2.1; intro e; have h9 : t < mu_z Hs := this; omega
          have ela : la H6 = b := by rw [show la H6 = la Hs from by unfold la; rw [hI 2 (by decide)]]; exact hlb
          have hb3 : mu_i H6 81 2 = nI b := by rw [hI 2 (by decide)]; exact hb2
          have hlo2 : lo [3, 4] H6 (mu_si (mu_si H6 81 4 x6) 81 3 (112 : Int32)) := lo.si (lo.si (lo.refl [3, 4] H6) (by decide)) (by decide)
          obtain ⟨y1, y2⟩ := hls.lo hlo2 (by decide) (by decide) (b := b) hb3 hbn0
          obtain ⟨z1, z2, z3, z4⟩ := lo.tosf w1.1 hlo2 (by decide)
          exact mw_of (fun _ => mu_ret rfl trivial ⟨(mu_si (mu_si H6 81 4 x6) 81 3 (112 : Int32)), rfl, y1, (hsf.1.trans w2.sf).trans z1, by omega, by omega, by omega⟩)
      · -- 49: not (lx_digit (mu_i Hs t (nI b).toNatClampNeg)) = 0
        refine mw_go mu_g120 (k := 3) (f1 := (54, [(1, .inl (nI (la H))), (0, .inr (.inr (some 81)))], [.inl (mu_i Hs 81 2), .inr (.inr (some 81))], Hs)) (C := [mu_is Hs (some 81) 4]) rfl (show mu_is Hs (some 81) 4 from hs.1.1.is rfl) ?_
        rw [hb2]
        refine mw_go mu_g120 (k := 4) (f1 := (5, [(1, .inl (nI (la H))), (0, .inr (.inr (some 81)))], [], (mu_si Hs 81 2 ((nI b) + (1 : Int32))))) (C := [mu_is Hs (some 81) 4]) rfl (show mu_is Hs (some 81) 4 from hs.1.1.is rfl) ?_
        rw [nI_1]
        obtain ⟨w1, w2⟩ := hs.lo (lo.si (j := 2) (x := nI (b + 1)) (lo.refl [2] Hs) (by decide)) (by decide) (by decide) (b := b + 1) rfl (by omega)
        exact ih (mu_si Hs 81 2 (nI (b + 1)), b + 1) ⟨w1, w2, hlo.si (by decide), by show la H ≤ b + 1; omega⟩ (by show n - (b + 1) < n - b; omega)
    · -- 49: not (lx_letter (mu_i Hs t (nI b).toNatClampNeg)) = 0
      refine mw_go mu_g120 (k := 3) (f1 := (54, [(1, .inl (nI (la H))), (0, .inr (.inr (some 81)))], [.inl (mu_i Hs 81 2), .inr (.inr (some 81))], Hs)) (C := [mu_is Hs (some 81) 4]) rfl (show mu_is Hs (some 81) 4 from hs.1.1.is rfl) ?_
      rw [hb2]
      refine mw_go mu_g120 (k := 4) (f1 := (5, [(1, .inl (nI (la H))), (0, .inr (.inr (some 81)))], [], (mu_si Hs 81 2 ((nI b) + (1 : Int32))))) (C := [mu_is Hs (some 81) 4]) rfl (show mu_is Hs (some 81) 4 from hs.1.1.is rfl) ?_
      rw [nI_1]
      obtain ⟨w1, w2⟩ := hs.lo (lo.si (j := 2) (x := nI (b + 1)) (lo.refl [2] Hs) (by decide)) (by decide) (by decide) (b := b + 1) rfl (by omega)
      exact ih (mu_si Hs 81 2 (nI (b + 1)), b + 1) ⟨w1, w2, hlo.si (by decide), by show la H ≤ b + 1; omega⟩ (by show n - (b + 1) < n - b; omega)
  · -- 62: not (nI b) < (nI n)
    have hbn : ¬ b < n := fun z => h1 (nI_lt z (by omega))
    have hge : la H + 1 ≤ b := by omega
    have hsf := lo.tosf h.1.1 hlo (by decide)
    refine mw_go mu_g120 (k := 4) (f1 := (68, [(1, .inl (nI (la H))), (0, .inr (.inr (some 81)))], [.inr (.inr (mu_r Hs 81 0)), .inr (.inr (some 81)), .inr (.inr (some 81))], Hs)) (C := [mu_is Hs (some 81) 4]) rfl (show mu_is Hs (some 81) 4 from hs.1.1.is rfl) ?_
    rw [hs.2.1]
    refine mw_go mu_g120 (k := 3) (f1 := (73, [(1, .inl (nI (la H))), (0, .inr (.inr (some 81)))], [.inl (mu_i Hs 81 2), .inl (nI (la H)), .inr (.inr (some t)), .inr (.inr (some 81)), .inr (.inr (some 81))], Hs)) (C := [mu_is Hs (some 81) 4]) rfl (show mu_is Hs (some 81) 4 from hs.1.1.is rfl) ?_
    rw [hb2]
    refine mw_cI (fun _ => rfl) (show mu_is Hs (some 81) 4 from hs.1.1.is rfl) (lx_num (d := d) (s := la H) (e := b) hs.1 hs.2.2.1 hab (by omega) ht24.2 (by rw [hsf.2.2.1]; exact hsz) (by rw [hsf.2.1]; omega)) (fun x8 H8 q8 => ?_)
    obtain ⟨w1, w2, w3, w4⟩ := q8
    refine mw_go mu_g120 (k := 5) (f1 := (86, [(1, .inl (nI (la H))), (0, .inr (.inr (some 81)))], [.inl (28 : Int32), .inl x8, .inr (.inr (some 81))], (mu_si H8 81 4 x8))) (C := [mu_is H8 (some 81) 4, mu_is (mu_si H8 81 4 x8) (some 81) 4]) rfl (show (mu_is H8 (some 81) 4) ∧ (mu_is (mu_si H8 81 4 x8) (some 81) 4) from ⟨w1.1.is rfl, w1.1.is rfl⟩) ?_
    refine mw_if (P := x8 < (28 : Int32)) (a := 89) (b := 96) (fun _ => rfl) trivial (fun h9 => ?_) (fun h9 => ?_)
    · -- 89: x8 < (28 : Int32)
      refine mw_go mu_g120 (k := 4) (f1 := (101, [(1, .inl (nI (la H))), (0, .inr (.inr (some 81)))], [], (mu_si (mu_si H8 81 4 x8) 81 3 x8))) (C := [mu_is (mu_si H8 81 4 x8) (some 81) 4, mu_is (mu_si H8 81 4 x8) (some 81) 4]) rfl (show (mu_is (mu_si H8 81 4 x8) (some 81) 4) ∧ (mu_is (mu_si H8 81 4 x8) (some 81) 4) from ⟨w1.1.is rfl, w1.1.is rfl⟩) ?_
      have hI : ∀ j, j ≠ 8 → mu_i H8 81 j = mu_i Hs 81 j := w2.2.2.1
      have hls : ls t n H8 := by
        obtain ⟨a1, a2, a3, a4, a5, a6, a7, a8⟩ := hs
        have ela : la H8 = la Hs := by unfold la; rw [hI 2 (by decide)]
        refine ⟨w1, by rw [w2.2.1 0 (by decide)]; exact a2, w2.1.is a3, ?_, by rw [(w2.1.2.1 t a3.2.1).2]; exact a5, by rw [hI 1 (by decide)]; exact a6, by rw [hI 2 (by decide), ela]; exact a7, by rw [ela]; exact a8⟩
        rcases w2.1.2.2.2.2.2.2.2.2 with z | z
        · rw [z]; exact a4
        · have := a3.2.1; intro e; have h9 : t < mu_z Hs := this; omega
      have ela : la H8 = b := by rw [show la H8 = la Hs from by unfold la; rw [hI 2 (by decide)]]; exact hlb
      have hb3 : mu_i H8 81 2 = nI b := by rw [hI 2 (by decide)]; exact hb2
      have hlo2 : lo [3, 4] H8 (mu_si (mu_si H8 81 4 x8) 81 3 x8) := lo.si (lo.si (lo.refl [3, 4] H8) (by decide)) (by decide)
      obtain ⟨y1, y2⟩ := hls.lo hlo2 (by decide) (by decide) (b := b) hb3 hbn0
      obtain ⟨z1, z2, z3, z4⟩ := lo.tosf w1.1 hlo2 (by decide)
      exact mw_of (fun _ => mu_ret rfl trivial ⟨(mu_si (mu_si H8 81 4 x8) 81 3 x8), rfl, y1, (hsf.1.trans w2.sf).trans z1, by omega, by omega, by omega⟩)
    · -- 96: not x8 < (28 : Int32)
      refine mw_go mu_g120 (k := 2) (f1 := (101, [(1, .inl (nI (la H))), (0, .inr (.inr (some 81)))], [], (mu_si (mu_si H8 81 4 x8) 81 3 (112 : Int32)))) (C := [mu_is (mu_si H8 81 4 x8) (some 81) 4]) rfl (show mu_is (mu_si H8 81 4 x8) (some 81) 4 from w1.1.is rfl) ?_
      have hI : ∀ j, j ≠ 8 → mu_i H8 81 j = mu_i Hs 81 j := w2.2.2.1
      have hls : ls t n H8 := by
        obtain ⟨a1, a2, a3, a4, a5, a6, a7, a8⟩ := hs
        have ela : la H8 = la Hs := by unfold la; rw [hI 2 (by decide)]
        refine ⟨w1, by rw [w2.2.1 0 (by decide)]; exact a2, w2.1.is a3, ?_, by rw [(w2.1.2.1 t a3.2.1).2]; exact a5, by rw [hI 1 (by decide)]; exact a6, by rw [hI 2 (by decide), ela]; exact a7, by rw [ela]; exact a8⟩
        rcases w2.1.2.2.2.2.2.2.2.2 with z | z
        · rw [z]; exact a4
        · have := a3.2.1; intro e; have h9 : t < mu_z Hs := this; omega
      have ela : la H8 = b := by rw [show la H8 = la Hs from by unfold la; rw [hI 2 (by decide)]]; exact hlb
      have hb3 : mu_i H8 81 2 = nI b := by rw [hI 2 (by decide)]; exact hb2
      have hlo2 : lo [3, 4] H8 (mu_si (mu_si H8 81 4 x8) 81 3 (112 : Int32)) := lo.si (lo.si (lo.refl [3, 4] H8) (by decide)) (by decide)
      obtain ⟨y1, y2⟩ := hls.lo hlo2 (by decide) (by decide) (b := b) hb3 hbn0
      obtain ⟨z1, z2, z3, z4⟩ := lo.tosf w1.1 hlo2 (by decide)
      exact mw_of (fun _ => mu_ret rfl trivial ⟨(mu_si (mu_si H8 81 4 x8) 81 3 (112 : Int32)), rfl, y1, (hsf.1.trans w2.sf).trans z1, by omega, by omega, by omega⟩)
end LexTape2
