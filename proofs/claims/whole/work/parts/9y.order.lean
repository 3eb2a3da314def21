/-! WHAT NAMES STAND FOR IS ORDERED, as data -/
def sn (s : Ts) (e : Nat) : Int32 := (s 13).2 e 5
def ea (W : Ts) (e : Nat) : Nat := ((W 13).2 e 0).toNatClampNeg
def oe (s : Ts) (r : Nat) : Nat := ((s 20).2 r 0).toNatClampNeg
def oq (s : Ts) (r : Nat) : Nat := ((s 20).2 r 1).toNatClampNeg
def cv (s : Ts) (v : Int32) (n : Nat) : Nat := sm (fun e => if sn s e = v then 1 else 0) 0 n
def VO (W s : Ts) : Prop := jz W s ∧ (∀ e, e < (W 13).1 → sn s e = 0 ∨ sn s e = 1 ∨ sn s e = 2) ∧ (∀ r, r < (s 14).1 → ∃ e, e < (W 13).1 ∧ (s 14).2 r 0 = nI e) ∧
  (∀ r, r < (s 20).1 → ((s 20).2 r 0 = nI (oe s r) ∧ (s 20).2 r 1 = nI (oq s r)) ∧ oe s r < (W 13).1 ∧ sn s (oe s r) = 1 ∧ ea W (oe s r) ≤ oq s r ∧ oq s r < 2147483648 ∧ ∀ r', r < r' → r' < (s 20).1 → oe s r' ≠ oe s r) ∧ (s 14).1 ≤ cv s 2 (W 13).1 ∧ (s 20).1 ≤ cv s 1 (W 13).1
section Order
variable {W s s' : Ts} {e p r0 : Nat} {y : Int32}
theorem sm_upd {f g : Nat → Nat} {e0 : Nat} (h : ∀ e, e ≠ e0 → g e = f e) : ∀ n, e0 < n → sm g 0 n + f e0 = sm f 0 n + g e0
  | 0, hn => absurd hn (Nat.not_lt_zero _)
  | n + 1, hn => by
    show sm g 0 n + g (0 + n) + f e0 = sm f 0 n + f (0 + n) + g e0
    rw [Nat.zero_add]
    by_cases hx : e0 = n
    · subst hx
      rw [sm_congr (f := f) (fun v _ h2 => h v (by omega))]
      omega
    · have z := sm_upd h n (by omega)
      have z2 := h n (Ne.symm hx)
      omega
theorem sm_zero {f : Nat → Nat} {a : Nat} : ∀ n, (∀ v, f v ≤ 1) → sm f a n ≤ n
  | 0, _ => Nat.le_refl _
  | n + 1, h => Nat.add_le_add (sm_zero n h) (h _)
theorem cv_le {v : Int32} {n : Nat} : cv s v n ≤ n := sm_zero n (fun e => by
  show (if sn s e = v then 1 else 0) ≤ 1
  split <;> omega)
theorem cv_set {v : Int32} {n : Nat} (he : e < n) (h : ∀ x, x ≠ e → sn s' x = sn s x) : cv s' v n + (if sn s e = v then 1 else 0) = cv s v n + (if sn s' e = v then 1 else 0) := sm_upd (fun x hx => by
  show (if sn s' x = v then 1 else 0) = (if sn s x = v then 1 else 0)
  rw [h x hx]) n he
theorem VO.enter (h : VO W s) (he : e < (W 13).1) (hb : (W 13).1 ≤ 67108864) (h0 : sn s e = 0) (hea : ea W e < 2147483648) (E : s' = ap 20 (ax 13 s (nI e) 5 1) (nI e) (nI (ea W e)) 0 0) : VO W s' := by
  obtain ⟨⟨j1, j2, j3⟩, v2, v3, v4, v5, v6⟩ := h
  have t13 : s' 13 = ax 13 s (nI e) 5 1 13 := by rw [E, ap_ne (by decide)]
  have t14 : s' 14 = s 14 := by rw [E, ap_ne (by decide), ax_ne (by decide)]
  have t20 : ax 13 s (nI e) 5 1 20 = s 20 := ax_ne (by decide)
  have n20 : (s' 20).1 = (s 20).1 + 1 := by rw [E, ap_n, t20]
  have c20 : ∀ r q, r < (s 20).1 → (s' 20).2 r q = (s 20).2 r q := fun r q hr => by rw [E, ap_lt (by rw [t20]; exact hr), t20]
  have x20 : ∀ q, q < 2 → (s' 20).2 (s 20).1 q = rw_col (nI e) (nI (ea W e)) 0 0 q := fun q hq => by
    rw [E]
    have := ap_new (s := ax 13 s (nI e) 5 1) (j := 20) (a := nI e) (b := nI (ea W e)) (d := 0) (e := 0) (q := q) hq
    rw [t20] at this
    exact this
  have sne : sn s' e = 1 := by unfold sn; rw [t13]; exact ax_hit (by rw [j2]; exact he) (by decide) (by omega)
  have snx : ∀ x, x ≠ e → sn s' x = sn s x := fun x hx => by unfold sn; rw [t13]; exact ax_c (fun _ z => absurd (z.trans (nI_clamp (by omega))) hx)
  have oo : ∀ r, r < (s 20).1 → oe s' r = oe s r := fun r hr => by unfold oe; rw [c20 r 0 hr]
  have oqq : ∀ r, r < (s 20).1 → oq s' r = oq s r := fun r hr => by unfold oq; rw [c20 r 1 hr]
  have oN : oe s' (s 20).1 = e := by unfold oe; rw [x20 0 (by decide)]; exact nI_clamp (by omega)
  have qN : oq s' (s 20).1 = ea W e := by unfold oq; rw [x20 1 (by decide)]; exact nI_clamp hea
  refine ⟨⟨fun j h1 h2 h3 => by rw [E, ap_ne h3, ax_ne h1]; exact j1 j h1 h2 h3, by rw [t13, ax_n]; exact j2, fun i c hc => by rw [t13, ax_c (fun _ _ => by omega)]; exact j3 i c hc⟩, fun x hx => ?_, by rw [t14]; exact v3, fun r hr => ?_, ?_, ?_⟩
  · by_cases hxe : x = e
    · subst hxe; exact Or.inr (Or.inl sne)
    · rw [snx x hxe]; exact v2 x hx
  · rw [n20] at hr
    by_cases hr2 : r < (s 20).1
    · obtain ⟨a1, a2, a3, a4, a5, a6⟩ := v4 r hr2
      have hne : oe s r ≠ e := fun z => by rw [z, h0] at a3; exact absurd a3 (by decide)
      rw [oo r hr2, oqq r hr2, c20 r 0 hr2, c20 r 1 hr2, snx _ hne, n20]
      refine ⟨a1, a2, a3, a4, a5, fun r' h1 h2 => ?_⟩
      by_cases hr3 : r' < (s 20).1
      · rw [oo r' hr3]; exact a6 r' h1 hr3
      · have : r' = (s 20).1 := by omega
        subst this
        rw [oN]; exact hne.symm
    · have : r = (s 20).1 := by omega
      subst this
      rw [oN, qN, sne, n20]
      exact ⟨⟨x20 0 (by decide), x20 1 (by decide)⟩, he, rfl, Nat.le_refl _, hea, fun r' h1 h2 => by omega⟩
  · have z := cv_set (v := 2) he snx
    rw [h0, sne, if_neg (by decide), if_neg (by decide)] at z
    rw [t14]; omega
  · have z := cv_set (v := 1) he snx
    rw [h0, sne, if_neg (by decide), if_pos rfl] at z
    rw [n20]; omega
theorem VO.next (h : VO W s) (hr0 : r0 < (s 20).1) (hr6 : r0 < 2147483648) (hp : ea W (oe s r0) ≤ p) (hp2 : p < 2147483648) (E : s' = ax 20 s (nI r0) 1 (nI p)) : VO W s' := by
  obtain ⟨⟨j1, j2, j3⟩, v2, v3, v4, v5, v6⟩ := h
  have t13 : s' 13 = s 13 := by rw [E, ax_ne (by decide)]
  have t14 : s' 14 = s 14 := by rw [E, ax_ne (by decide)]
  have n20 : (s' 20).1 = (s 20).1 := by rw [E, ax_n]
  have c0 : ∀ r, (s' 20).2 r 0 = (s 20).2 r 0 := fun r => by rw [E]; exact ax_c (fun _ _ => by decide)
  have c1 : ∀ r, r ≠ r0 → (s' 20).2 r 1 = (s 20).2 r 1 := fun r hr => by rw [E]; exact ax_c (fun _ z => absurd (z.trans (nI_clamp hr6)) hr)
  have x1 : (s' 20).2 r0 1 = nI p := by rw [E]; exact ax_hit hr0 (by decide) hr6
  have snx : ∀ x, sn s' x = sn s x := fun x => by unfold sn; rw [t13]
  have oo : ∀ r, oe s' r = oe s r := fun r => by unfold oe; rw [c0 r]
  have cvs : ∀ v n, cv s' v n = cv s v n := fun v n => sm_congr (fun x _ _ => by
    show (if sn s' x = v then 1 else 0) = (if sn s x = v then 1 else 0)
    rw [snx])
  refine ⟨⟨fun j h1 h2 h3 => by rw [E, ax_ne h3]; exact j1 j h1 h2 h3, by rw [t13]; exact j2, by rw [t13]; exact j3⟩, fun x hx => by rw [snx]; exact v2 x hx, by rw [t14]; exact v3, fun r hr => ?_, by rw [t14, cvs]; exact v5, by rw [n20, cvs]; exact v6⟩
  rw [n20] at hr
  obtain ⟨⟨a1, a1'⟩, a2, a3, a4, a5, a6⟩ := v4 r hr
  by_cases hrr : r = r0
  · subst hrr
    have q0 : oq s' r = p := by unfold oq; rw [x1]; exact nI_clamp hp2
    rw [oo, q0, c0, x1, snx, n20]
    exact ⟨⟨a1, rfl⟩, a2, a3, hp, hp2, fun r' h1 h2 => by rw [oo]; exact a6 r' h1 h2⟩
  · have q0 : oq s' r = oq s r := by unfold oq; rw [c1 r hrr]
    rw [oo, q0, c0, c1 r hrr, snx, n20]
    exact ⟨⟨a1, a1'⟩, a2, a3, a4, a5, fun r' h1 h2 => by rw [oo]; exact a6 r' h1 h2⟩
theorem VO.pop (h : VO W s) (hr0 : r0 + 1 = (s 20).1) (he : e = oe s r0) (hb : (W 13).1 ≤ 67108864) (E : s' = ac 20 (ap 14 (ax 13 s (nI e) 5 2) (nI e) 0 0 0) r0) : VO W s' := by
  obtain ⟨⟨j1, j2, j3⟩, v2, v3, v4, v5, v6⟩ := h
  obtain ⟨-, he2, he3, -, -, -⟩ := v4 r0 (by omega)
  rw [← he] at he2 he3
  have ta : ∀ j, j ≠ 20 → s' j = ap 14 (ax 13 s (nI e) 5 2) (nI e) 0 0 0 j := fun j hj => by rw [E]; exact fu_ne _ _ hj
  have t13 : s' 13 = ax 13 s (nI e) 5 2 13 := by rw [ta 13 (by decide), ap_ne (by decide)]
  have t14 : ax 13 s (nI e) 5 2 14 = s 14 := ax_ne (by decide)
  have u20 : ap 14 (ax 13 s (nI e) 5 2) (nI e) 0 0 0 20 = s 20 := by rw [ap_ne (by decide), ax_ne (by decide)]
  have n14 : (s' 14).1 = (s 14).1 + 1 := by rw [ta 14 (by decide), ap_n, t14]
  have n20 : (s' 20).1 = r0 := by rw [E]; unfold ac; rw [fu_at]; rfl
  have c20 : ∀ r q, r < r0 → (s' 20).2 r q = (s 20).2 r q := fun r q hr => by
    rw [E]
    unfold ac
    rw [fu_at, u20]
    exact if_pos hr
  have sne : sn s' e = 2 := by unfold sn; rw [t13]; exact ax_hit (by rw [j2]; exact he2) (by decide) (by omega)
  have snx : ∀ x, x ≠ e → sn s' x = sn s x := fun x hx => by unfold sn; rw [t13]; exact ax_c (fun _ z => absurd (z.trans (nI_clamp (by omega))) hx)
  have oo : ∀ r, r < r0 → oe s' r = oe s r := fun r hr => by unfold oe; rw [c20 r 0 hr]
  have oqq : ∀ r, r < r0 → oq s' r = oq s r := fun r hr => by unfold oq; rw [c20 r 1 hr]
  refine ⟨⟨fun j h1 h2 h3 => by rw [ta j h3, ap_ne h2, ax_ne h1]; exact j1 j h1 h2 h3, by rw [t13, ax_n]; exact j2, fun i c hc => by rw [t13, ax_c (fun _ _ => by omega)]; exact j3 i c hc⟩, fun x hx => ?_, fun r hr => ?_, fun r hr => ?_, ?_, ?_⟩
  · by_cases hxe : x = e
    · subst hxe; exact Or.inr (Or.inr sne)
    · rw [snx x hxe]; exact v2 x hx
  · rw [n14] at hr
    rw [ta 14 (by decide)]
    by_cases hr2 : r < (s 14).1
    · rw [ap_lt (by rw [t14]; exact hr2), t14]; exact v3 r hr2
    · have : r = (s 14).1 := by omega
      subst this
      refine ⟨e, he2, ?_⟩
      have := ap_new (s := ax 13 s (nI e) 5 2) (j := 14) (a := nI e) (b := 0) (d := 0) (e := 0) (q := 0) (by decide)
      rw [t14] at this
      exact this
  · rw [n20] at hr
    obtain ⟨a1, a2, a3, a4, a5, a6⟩ := v4 r (by omega)
    have hne : oe s r ≠ e := by rw [he]; exact (a6 r0 hr (by omega)).symm
    rw [oo r hr, oqq r hr, c20 r 0 hr, c20 r 1 hr, snx _ hne, n20]
    exact ⟨a1, a2, a3, a4, a5, fun r' h1 h2 => by rw [oo r' h2]; exact a6 r' h1 (by omega)⟩
  · have z := cv_set (v := 2) he2 snx
    rw [he3, sne, if_neg (by decide), if_pos rfl] at z
    rw [n14]; omega
  · have z := cv_set (v := 1) he2 snx
    rw [he3, sne, if_pos rfl, if_neg (by decide)] at z
    rw [n20]; omega
theorem VO.clear (h : VO W s) (E : s' = ac 20 s 0) : VO W s' ∧ (s' 20).1 = 0 ∧ s' 13 = s 13 := by
  obtain ⟨⟨j1, j2, j3⟩, v2, v3, v4, v5, v6⟩ := h
  have ta : ∀ j, j ≠ 20 → s' j = s j := fun j hj => by rw [E]; exact fu_ne _ _ hj
  have n20 : (s' 20).1 = 0 := by rw [E]; unfold ac; rw [fu_at]; rfl
  have t13 := ta 13 (by decide)
  have snx : ∀ x, sn s' x = sn s x := fun x => by unfold sn; rw [t13]
  have cvs : ∀ v n, cv s' v n = cv s v n := fun v n => sm_congr (fun x _ _ => by
    show (if sn s' x = v then 1 else 0) = (if sn s x = v then 1 else 0)
    rw [snx])
  exact ⟨⟨⟨fun j h1 h2 h3 => by rw [ta j h3]; exact j1 j h1 h2 h3, by rw [t13]; exact j2, by rw [t13]; exact j3⟩, fun x hx => by rw [snx]; exact v2 x hx, by rw [ta 14 (by decide)]; exact v3, fun r hr => by omega, by rw [ta 14 (by decide), cvs]; exact v5, by omega⟩, n20, t13⟩
/-- an entry's piece of code -/
theorem JW.ent (h : JW W) (he : e < (W 13).1) : ∃ a b i, (W 13).2 e 0 = nI a ∧ (W 13).2 e 1 = nI b ∧ (W 13).2 e 2 = nI i ∧ i < (W 11).1 ∧ rg W (im W i) false a b ∧ ea W e = a ∧ b ≤ 67108864 := by
  obtain ⟨⟨a, b, i, h1, h2, h3, h4, h5⟩, -⟩ := h.2.2.1 e he
  have b0 := h.2.2.2.2.2.2 0 (by decide)
  have h6 := h5.1
  have h7 := h5.2.1
  exact ⟨a, b, i, h1, h2, h3, h4, h5, by unfold ea; rw [h1]; exact nI_clamp (by omega), by omega⟩
end Order
section Order2
variable {H : mu_H} {d m e r0 : Nat} {W : Ts} {C : Nat → Nat}
/-- PathProver$Judge.enter(I)V -/
abbrev mu_m201 : ev_M := (2, none, [], ev_b201)
theorem mu_g201 : mu_good mu_m201 := mu_goodk ev_k201
theorem jg_enter2 (h : dm m H) (hV : VO W (ak m H)) (hW : JW W) (he : e < (W 13).1) (h0 : sn (ak m H) e = 0) (hC14 : 2 * (((W 13).1 + 1) * 1) + 1 ≤ C 14) (hC14b : C 14 ≤ 8388608) (hC20 : 2 * (((W 13).1 + 1) * 2) + 2 ≤ C 20) (hC20b : C 20 ≤ 8388608) : mu_TV (mu_D (d + 4)) 201 [.inr (.inr (some 91)), .inl (nI e)] H (fun H1 => dm m H1 ∧ rl m C H H1 ∧ (∀ z, mu_i H1 95 z = mu_i H 95 z) ∧ VO W (ak m H1)) := by
  have b13 := hW.2.2.2.2.2.2 13 (by decide)
  obtain ⟨ya, yb, yi, y1, y2, y3, y4, y5, y6, y7⟩ := hW.ent he
  have y8 := y5.1
  refine mu_meth (M := mu_m201) rfl rfl ?_
  refine mw_ht (mu_fn_of (show [0, 1].Nodup by decide)) ?_
  refine mw_go mu_g201 (k := 2) (f1 := (4, [(0, .inr (.inr (some 91))), (1, .inl (nI e))], [.inr (.inr (mu_r H 91 3))], H)) (C := [mu_is H (some 91) 3]) rfl (show mu_is H (some 91) 3 from h.1.is rfl) ?_
  rw [h.2.2.2]
  refine mw_go mu_g201 (k := 1) (f1 := (7, [(0, .inr (.inr (some 91))), (1, .inl (nI e))], [.inr (.inr (mu_r H m 13))], H)) (C := [mu_is H (some m) 6]) rfl (show mu_is H (some m) 6 from (show mu_is H (some m) 6 from gi_im h.1 h.2.1)) ?_
  rw [(show mu_r H m 13 = some (m + 27) from (gi_mr h.1 h.2.1 (j := 13) (by decide)).trans (congrArg some (by omega)))]
  refine mw_go mu_g201 (k := 3) (f1 := (10, [(0, .inr (.inr (some 91))), (1, .inl (nI e))], [.inl (1 : Int32), .inl (5 : Int32), .inl (nI e), .inr (.inr (some (m + 27)))], H)) (C := []) rfl trivial ?_
  refine mw_cV (fun _ => rfl) (show mu_is H (some (m + 27)) 10 from (h.1.w (md_w13 h.2.1)).1) (dm.setr (C := C) (d := (d + 2)) h rfl (j := 13) (by decide) rfl (nI e) (1 : Int32) (c := 5) (by decide)) (fun H1 q1 => ?_)
  obtain ⟨hp1, qt1, ha1, qh1⟩ := q1
  have ht1 := (rl.refl m C H).trans qt1
  refine mw_go mu_g201 (k := 2) (f1 := (17, [(0, .inr (.inr (some 91))), (1, .inl (nI e))], [.inr (.inr (mu_r H1 91 1))], H1)) (C := [mu_is H1 (some 91) 3]) rfl (show mu_is H1 (some 91) 3 from hp1.1.is rfl) ?_
  rw [(hp1.1.r (p := 91) (j := 1) (q := 96) rfl)]
  refine mw_go mu_g201 (k := 3) (f1 := (22, [(0, .inr (.inr (some 91))), (1, .inl (nI e))], [.inr (.inr (mu_r H1 91 3)), .inl (nI e), .inr (.inr (some 96))], H1)) (C := [mu_is H1 (some 91) 3]) rfl (show mu_is H1 (some 91) 3 from hp1.1.is rfl) ?_
  rw [hp1.2.2.2]
  refine mw_go mu_g201 (k := 1) (f1 := (25, [(0, .inr (.inr (some 91))), (1, .inl (nI e))], [.inr (.inr (mu_r H1 m 13)), .inl (nI e), .inr (.inr (some 96))], H1)) (C := [mu_is H1 (some m) 6]) rfl (show mu_is H1 (some m) 6 from (show mu_is H1 (some m) 6 from gi_im hp1.1 hp1.2.1)) ?_
  rw [(show mu_r H1 m 13 = some (m + 27) from (gi_mr hp1.1 hp1.2.1 (j := 13) (by decide)).trans (congrArg some (by omega)))]
  refine mw_go mu_g201 (k := 2) (f1 := (27, [(0, .inr (.inr (some 91))), (1, .inl (nI e))], [.inl (0 : Int32), .inl (nI e), .inr (.inr (some (m + 27))), .inl (nI e), .inr (.inr (some 96))], H1)) (C := []) rfl trivial ?_
  refine mw_cIe (fun _ => rfl) (show mu_is H1 (some (m + 27)) 10 from (hp1.1.w (md_w13 hp1.2.1)).1) (dm.getr (d := (d + 2)) hp1 ha1 (j := 13) (by decide) rfl (nI e) (c := 0) (by decide)) ?_
  rw [show (tget ((ax 13 (ak m H) (nI e) 5 (1 : Int32)) 13) (nI e) 0) = (nI (ea W e)) from (tget_nI (by omega)).trans (by rw [ax_c (fun _ _ => by decide), hV.1.2.2 e 0 (by decide)]; rw [y1, y6])]
  refine mw_go mu_g201 (k := 2) (f1 := (32, [(0, .inr (.inr (some 91))), (1, .inl (nI e))], [.inl (0 : Int32), .inl (0 : Int32), .inl (nI (ea W e)), .inl (nI e), .inr (.inr (some 96))], H1)) (C := []) rfl trivial ?_
  refine mw_cI (fun _ => rfl) (show mu_is H1 (some 96) 10 from hp1.1.is rfl) (dm.putr (C := C) (d := d) hp1 ha1 (j := 20) (by decide) rfl (nI e) (nI (ea W e)) (0 : Int32) (0 : Int32) (by have z2 := hV.2.2.2.2.2; have z3 := cv_le (s := ak m H) (v := 1) (n := (W 13).1); have z4 : (((ax 13 (ak m H) (nI e) 5 (1 : Int32))) 20).1 = (ak m H 20).1 := (by rw [ax_ne (by decide)]); show 2 * (((((ax 13 (ak m H) (nI e) 5 (1 : Int32))) 20).1 + 1) * 2) + 2 ≤ C 20; omega) hC20b) (fun x3 H3 q3 => ?_)
  obtain ⟨rfl, hp3, qt3, ha3, qh3⟩ := q3
  have ht3 := ht1.trans qt3
  refine mw_go mu_g201 (k := 1) (f1 := (36, [(0, .inr (.inr (some 91))), (1, .inl (nI e))], [], H3)) (C := []) rfl trivial ?_
  exact mw_of (fun _ => mu_ret rfl trivial ⟨H3, rfl, hp3, ht3, fun z => (qh3 z).trans (qh1 z), hV.enter he b13 h0 (by omega) ha3⟩)
/-- PathProver$Judge.nextPart(I)I -/
abbrev mu_m202 : ev_M := (6, (some .int), [], ev_b202)
theorem mu_g202 : mu_good mu_m202 := mu_goodk ev_k202
theorem jg_next2 (h : dm m H) (hV : VO W (ak m H)) (hW : JW W) (hr0 : r0 + 1 = (ak m H 20).1) : mu_TI (mu_D (d + 4)) 202 [.inr (.inr (some 91)), .inl (nI r0)] H (fun x H1 => (x = -1 ∧ H = H1) ∨ (∃ e2, x = nI e2 ∧ e2 < (W 13).1 ∧ dm m H1 ∧ rl m C H H1 ∧ (∀ z, mu_i H1 95 z = mu_i H 95 z) ∧ VO W (ak m H1) ∧ (ak m H1 20).1 = (ak m H 20).1 ∧ ak m H1 13 = ak m H 13 ∧ ¬ sn (ak m H) e2 = 2)) := by
  have b13 := hW.2.2.2.2.2.2 13 (by decide)
  have hz20 : (ak m H 20).1 ≤ 67108864 := by have z2 := hV.2.2.2.2.2; have z3 := cv_le (s := ak m H) (v := 1) (n := (W 13).1); omega
  obtain ⟨⟨o1, o2⟩, o3, o4, o5, o6, o7⟩ := hV.2.2.2.1 r0 (by omega)
  obtain ⟨e, heo⟩ : ∃ e, e = oe (ak m H) r0 := ⟨_, rfl⟩
  rw [← heo] at o1 o3 o4 o5
  obtain ⟨ya, yb, yi, y1, y2, y3, y4, y5, y6, y7⟩ := hW.ent o3
  rw [y6] at o5
  have y8 := y5.1
  have b11 := hW.2.2.2.2.2.2 11 (by decide)
  refine mu_meth (M := mu_m202) rfl rfl ?_
  refine mw_ht (mu_fn_of (show [0, 1].Nodup by decide)) ?_
  refine mw_go mu_g202 (k := 2) (f1 := (4, [(0, .inr (.inr (some 91))), (1, .inl (nI r0))], [.inr (.inr (mu_r H 91 1))], H)) (C := [mu_is H (some 91) 3]) rfl (show mu_is H (some 91) 3 from h.1.is rfl) ?_
  rw [(h.1.r (p := 91) (j := 1) (q := 96) rfl)]
  refine mw_go mu_g202 (k := 2) (f1 := (6, [(0, .inr (.inr (some 91))), (1, .inl (nI r0))], [.inl (0 : Int32), .inl (nI r0), .inr (.inr (some 96))], H)) (C := []) rfl trivial ?_
  refine mw_cIe (fun _ => rfl) (show mu_is H (some 96) 10 from h.1.is rfl) (dm.getr (d := (d + 2)) h rfl (j := 20) (by decide) rfl (nI r0) (c := 0) (by decide)) ?_
  rw [show (tget ((ak m H) 20) (nI r0) 0) = (nI e) from (tget_nI (by omega)).trans o1]
  refine mw_go mu_g202 (k := 3) (f1 := (14, [(2, .inl (nI e)), (0, .inr (.inr (some 91))), (1, .inl (nI r0))], [.inr (.inr (mu_r H 91 3))], H)) (C := [mu_is H (some 91) 3]) rfl (show mu_is H (some 91) 3 from h.1.is rfl) ?_
  rw [h.2.2.2]
  refine mw_go mu_g202 (k := 1) (f1 := (17, [(2, .inl (nI e)), (0, .inr (.inr (some 91))), (1, .inl (nI r0))], [.inr (.inr (mu_r H m 13))], H)) (C := [mu_is H (some m) 6]) rfl (show mu_is H (some m) 6 from (show mu_is H (some m) 6 from gi_im h.1 h.2.1)) ?_
  rw [(show mu_r H m 13 = some (m + 27) from (gi_mr h.1 h.2.1 (j := 13) (by decide)).trans (congrArg some (by omega)))]
  refine mw_go mu_g202 (k := 2) (f1 := (19, [(2, .inl (nI e)), (0, .inr (.inr (some 91))), (1, .inl (nI r0))], [.inl (2 : Int32), .inl (nI e), .inr (.inr (some (m + 27)))], H)) (C := []) rfl trivial ?_
  refine mw_cIe (fun _ => rfl) (show mu_is H (some (m + 27)) 10 from (h.1.w (md_w13 h.2.1)).1) (dm.getr (d := (d + 2)) h rfl (j := 13) (by decide) rfl (nI e) (c := 2) (by decide)) ?_
  rw [show (tget ((ak m H) 13) (nI e) 2) = (nI yi) from (tget_nI (by omega)).trans ((hV.1.2.2 e 2 (by decide)).trans y3)]
  refine mw_go mu_g202 (k := 3) (f1 := (27, [(3, .inl (nI yi)), (2, .inl (nI e)), (0, .inr (.inr (some 91))), (1, .inl (nI r0))], [.inr (.inr (mu_r H 91 1))], H)) (C := [mu_is H (some 91) 3]) rfl (show mu_is H (some 91) 3 from h.1.is rfl) ?_
  rw [(h.1.r (p := 91) (j := 1) (q := 96) rfl)]
  refine mw_go mu_g202 (k := 2) (f1 := (29, [(3, .inl (nI yi)), (2, .inl (nI e)), (0, .inr (.inr (some 91))), (1, .inl (nI r0))], [.inl (1 : Int32), .inl (nI r0), .inr (.inr (some 96))], H)) (C := []) rfl trivial ?_
  refine mw_cIe (fun _ => rfl) (show mu_is H (some 96) 10 from h.1.is rfl) (dm.getr (d := (d + 2)) h rfl (j := 20) (by decide) rfl (nI r0) (c := 1) (by decide)) ?_
  rw [show (tget ((ak m H) 20) (nI r0) 1) = (nI (oq (ak m H) r0)) from (tget_nI (by omega)).trans o2]
  refine mw_go mu_g202 (k := 1) (f1 := (34, [(4, .inl (nI (oq (ak m H) r0))), (3, .inl (nI yi)), (2, .inl (nI e)), (0, .inr (.inr (some 91))), (1, .inl (nI r0))], [], H)) (C := []) rfl trivial ?_
  refine mw_sub (L' := [(4, .inl (nI (oq (ak m H) r0))), (0, .inr (.inr (some 91))), (1, .inl (nI r0)), (2, .inl (nI e)), (3, .inl (nI yi))]) (by simp) ?_
  refine mw_down (α := Nat) (fun zs => (34, [(4, .inl (nI zs)), (0, .inr (.inr (some 91))), (1, .inl (nI r0)), (2, .inl (nI e)), (3, .inl (nI yi))], [], H)) (fun zs => 2147483648 - zs) (fun zs => (ya ≤ zs) ∧ (zs < 2147483648)) (fun zs hs ih => ?_) (oq (ak m H) r0) ⟨(show ya ≤ (oq (ak m H) r0) from by omega), (show (oq (ak m H) r0) < 2147483648 from by omega)⟩
  obtain ⟨p, rfl⟩ : ∃ y, y = zs := ⟨zs, rfl⟩
  obtain ⟨hp1, hp2⟩ := hs
  have hp1 : ya ≤ p := hp1
  have hp2 : p < 2147483648 := hp2
  show mu_W _ _ (34, [(4, .inl (nI p)), (0, .inr (.inr (some 91))), (1, .inl (nI r0)), (2, .inl (nI e)), (3, .inl (nI yi))], [], H) _
  refine mw_go mu_g202 (k := 3) (f1 := (40, [(4, .inl (nI p)), (0, .inr (.inr (some 91))), (1, .inl (nI r0)), (2, .inl (nI e)), (3, .inl (nI yi))], [.inr (.inr (mu_r H 91 3)), .inl (nI p)], H)) (C := [mu_is H (some 91) 3]) rfl (show mu_is H (some 91) 3 from h.1.is rfl) ?_
  rw [h.2.2.2]
  refine mw_go mu_g202 (k := 1) (f1 := (43, [(4, .inl (nI p)), (0, .inr (.inr (some 91))), (1, .inl (nI r0)), (2, .inl (nI e)), (3, .inl (nI yi))], [.inr (.inr (mu_r H m 13)), .inl (nI p)], H)) (C := [mu_is H (some m) 6]) rfl (show mu_is H (some m) 6 from (show mu_is H (some m) 6 from gi_im h.1 h.2.1)) ?_
  rw [(show mu_r H m 13 = some (m + 27) from (gi_mr h.1 h.2.1 (j := 13) (by decide)).trans (congrArg some (by omega)))]
  refine mw_go mu_g202 (k := 2) (f1 := (45, [(4, .inl (nI p)), (0, .inr (.inr (some 91))), (1, .inl (nI r0)), (2, .inl (nI e)), (3, .inl (nI yi))], [.inl (1 : Int32), .inl (nI e), .inr (.inr (some (m + 27))), .inl (nI p)], H)) (C := []) rfl trivial ?_
  refine mw_cIe (fun _ => rfl) (show mu_is H (some (m + 27)) 10 from (h.1.w (md_w13 h.2.1)).1) (dm.getr (d := (d + 2)) h rfl (j := 13) (by decide) rfl (nI e) (c := 1) (by decide)) ?_
  rw [show (tget ((ak m H) 13) (nI e) 1) = (nI yb) from (tget_nI (by omega)).trans ((hV.1.2.2 e 1 (by decide)).trans y2)]
  refine mw_if (P := (nI p) < (nI yb)) (a := 51) (b := 104) (fun _ => rfl) trivial (fun h5 => ?_) (fun h5 => ?_)
  · -- 51: (nI p) < (nI yb)
    have hpb : p < yb := (nI_ltI (by omega) (by omega)).mp h5
    refine mw_go mu_g202 (k := 3) (f1 := (55, [(4, .inl (nI p)), (0, .inr (.inr (some 91))), (1, .inl (nI r0)), (2, .inl (nI e)), (3, .inl (nI yi))], [.inl (nI yi), .inl (nI p), .inr (.inr (some 91))], H)) (C := []) rfl trivial ?_
    refine mw_cI (fun _ => rfl) (show mu_is H (some 91) 3 from h.1.is rfl) (jg_named2 (d := d) (W := W) (a := ya) (b := yb) h hV.1 hW y4 y5 (by omega) hpb) (fun x6 H6 q6 => ?_)
    rcases q6 with ⟨rfl, rfl⟩ | ⟨e2, he2, rfl, rfl⟩
    · -- (-1 : Int32)
      refine mw_go mu_g202 (k := 2) (f1 := (62, [(5, .inl (-1 : Int32)), (4, .inl (nI p)), (0, .inr (.inr (some 91))), (1, .inl (nI r0)), (2, .inl (nI e)), (3, .inl (nI yi))], [.inl (-1 : Int32)], H)) (C := []) rfl trivial ?_
      refine mw_if (P := (-1 : Int32) < 0) (a := 98) (b := 65) (fun _ => rfl) trivial (fun h7 => ?_) (fun h7 => absurd (by decide) h7)
      refine mw_go mu_g202 (k := 2) (f1 := (34, [(4, .inl ((nI p) + 1)), (5, .inl (-1 : Int32)), (0, .inr (.inr (some 91))), (1, .inl (nI r0)), (2, .inl (nI e)), (3, .inl (nI yi))], [], H)) (C := []) rfl trivial ?_
      rw [nI_1 p]
      exact mw_sub (by simp) (ih (p + 1) ⟨(show ya ≤ (p + 1) from by omega), (show (p + 1) < 2147483648 from by omega)⟩ (by show 2147483648 - (p + 1) < 2147483648 - p; omega))
    · -- (nI e2)
      refine mw_go mu_g202 (k := 2) (f1 := (62, [(5, .inl (nI e2)), (4, .inl (nI p)), (0, .inr (.inr (some 91))), (1, .inl (nI r0)), (2, .inl (nI e)), (3, .inl (nI yi))], [.inl (nI e2)], H)) (C := []) rfl trivial ?_
      refine mw_if (P := (nI e2) < 0) (a := 98) (b := 65) (fun _ => rfl) trivial (fun h8 => ?_) (fun h8 => ?_)
      · -- 98: (nI e2) < 0
        exact absurd h8 (nI_pos (by omega))
      · -- 65: not (nI e2) < 0
        refine mw_go mu_g202 (k := 2) (f1 := (69, [(5, .inl (nI e2)), (4, .inl (nI p)), (0, .inr (.inr (some 91))), (1, .inl (nI r0)), (2, .inl (nI e)), (3, .inl (nI yi))], [.inr (.inr (mu_r H 91 3))], H)) (C := [mu_is H (some 91) 3]) rfl (show mu_is H (some 91) 3 from h.1.is rfl) ?_
        rw [h.2.2.2]
        refine mw_go mu_g202 (k := 1) (f1 := (72, [(5, .inl (nI e2)), (4, .inl (nI p)), (0, .inr (.inr (some 91))), (1, .inl (nI r0)), (2, .inl (nI e)), (3, .inl (nI yi))], [.inr (.inr (mu_r H m 13))], H)) (C := [mu_is H (some m) 6]) rfl (show mu_is H (some m) 6 from (show mu_is H (some m) 6 from gi_im h.1 h.2.1)) ?_
        rw [(show mu_r H m 13 = some (m + 27) from (gi_mr h.1 h.2.1 (j := 13) (by decide)).trans (congrArg some (by omega)))]
        refine mw_go mu_g202 (k := 2) (f1 := (75, [(5, .inl (nI e2)), (4, .inl (nI p)), (0, .inr (.inr (some 91))), (1, .inl (nI r0)), (2, .inl (nI e)), (3, .inl (nI yi))], [.inl (5 : Int32), .inl (nI e2), .inr (.inr (some (m + 27)))], H)) (C := []) rfl trivial ?_
        refine mw_cIe (fun _ => rfl) (show mu_is H (some (m + 27)) 10 from (h.1.w (md_w13 h.2.1)).1) (dm.getr (d := (d + 2)) h rfl (j := 13) (by decide) rfl (nI e2) (c := 5) (by decide)) ?_
        rw [show (tget ((ak m H) 13) (nI e2) 5) = (sn (ak m H) e2) from tget_nI (by omega)]
        refine mw_go mu_g202 (k := 1) (f1 := (79, [(5, .inl (nI e2)), (4, .inl (nI p)), (0, .inr (.inr (some 91))), (1, .inl (nI r0)), (2, .inl (nI e)), (3, .inl (nI yi))], [.inl (2 : Int32), .inl (sn (ak m H) e2)], H)) (C := []) rfl trivial ?_
        refine mw_if (P := (sn (ak m H) e2) = (2 : Int32)) (a := 98) (b := 82) (fun _ => rfl) trivial (fun h10 => ?_) (fun h10 => ?_)
        · -- 98: (sn (ak m H) e2) = (2 : Int32)
          refine mw_go mu_g202 (k := 2) (f1 := (34, [(4, .inl ((nI p) + 1)), (5, .inl (nI e2)), (0, .inr (.inr (some 91))), (1, .inl (nI r0)), (2, .inl (nI e)), (3, .inl (nI yi))], [], H)) (C := []) rfl trivial ?_
          rw [nI_1 p]
          exact mw_sub (by simp) (ih (p + 1) ⟨(show ya ≤ (p + 1) from by omega), (show (p + 1) < 2147483648 from by omega)⟩ (by show 2147483648 - (p + 1) < 2147483648 - p; omega))
        · -- 82: not (sn (ak m H) e2) = (2 : Int32)
          refine mw_go mu_g202 (k := 2) (f1 := (86, [(5, .inl (nI e2)), (4, .inl (nI p)), (0, .inr (.inr (some 91))), (1, .inl (nI r0)), (2, .inl (nI e)), (3, .inl (nI yi))], [.inr (.inr (mu_r H 91 1))], H)) (C := [mu_is H (some 91) 3]) rfl (show mu_is H (some 91) 3 from h.1.is rfl) ?_
          rw [(h.1.r (p := 91) (j := 1) (q := 96) rfl)]
          refine mw_go mu_g202 (k := 5) (f1 := (92, [(5, .inl (nI e2)), (4, .inl (nI p)), (0, .inr (.inr (some 91))), (1, .inl (nI r0)), (2, .inl (nI e)), (3, .inl (nI yi))], [.inl ((nI p) + (1 : Int32)), .inl (1 : Int32), .inl (nI r0), .inr (.inr (some 96))], H)) (C := []) rfl trivial ?_
          rw [nI_1 p]
          refine mw_cV (fun _ => rfl) (show mu_is H (some 96) 10 from h.1.is rfl) (dm.setr (C := C) (d := (d + 2)) h rfl (j := 20) (by decide) rfl (nI r0) (nI (p + 1)) (c := 1) (by decide)) (fun H11 q11 => ?_)
          obtain ⟨hp11, qt11, ha11, qh11⟩ := q11
          have ht11 := (rl.refl m C H).trans qt11
          refine mw_go mu_g202 (k := 1) (f1 := (97, [(5, .inl (nI e2)), (4, .inl (nI p)), (0, .inr (.inr (some 91))), (1, .inl (nI r0)), (2, .inl (nI e)), (3, .inl (nI yi))], [.inl (nI e2)], H11)) (C := []) rfl trivial ?_
          exact mw_of (fun _ => mu_ret rfl trivial ⟨_, H11, rfl, Or.inr ⟨e2, rfl, he2, hp11, ht11, qh11, hV.next (by omega) (by omega) (by rw [← heo, y6]; omega) (by omega) ha11, (by rw [ha11, ax_n]), (by rw [ha11, ax_ne (by decide)]), h10⟩⟩)
  · -- 104: not (nI p) < (nI yb)
    refine mw_go mu_g202 (k := 1) (f1 := (105, [(4, .inl (nI p)), (0, .inr (.inr (some 91))), (1, .inl (nI r0)), (2, .inl (nI e)), (3, .inl (nI yi))], [.inl (-1 : Int32)], H)) (C := []) rfl trivial ?_
    exact mw_of (fun _ => mu_ret rfl trivial ⟨_, _, rfl, Or.inl ⟨rfl, rfl⟩⟩)
/-- PathProver$Judge.visit(I)Z -/
abbrev mu_m200 : ev_M := (5, (some .boolean), [], ev_b200)
theorem mu_g200 : mu_good mu_m200 := mu_goodk ev_k200
theorem jg_visit2 (h : dm m H) (hV : VO W (ac 20 (ak m H) 0)) (hW : JW W) (he : e < (W 13).1) (h0 : sn (ak m H) e = 0) (hC14 : 2 * (((W 13).1 + 1) * 1) + 1 ≤ C 14) (hC14b : C 14 ≤ 8388608) (hC20 : 2 * (((W 13).1 + 1) * 2) + 2 ≤ C 20) (hC20b : C 20 ≤ 8388608) : mu_TI (mu_D (d + 5)) 200 [.inr (.inr (some 91)), .inl (nI e)] H (fun x H1 => (x = 0 ∨ x = 1) ∧ dm m H1 ∧ rl m C H H1 ∧ (∀ z, mu_i H1 95 z = mu_i H 95 z) ∧ VO W (ak m H1)) := by
  have b13 := hW.2.2.2.2.2.2 13 (by decide)
  refine mu_meth (M := mu_m200) rfl rfl ?_
  refine mw_ht (mu_fn_of (show [0, 1].Nodup by decide)) ?_
  refine mw_go mu_g200 (k := 2) (f1 := (4, [(0, .inr (.inr (some 91))), (1, .inl (nI e))], [.inr (.inr (mu_r H 91 1))], H)) (C := [mu_is H (some 91) 3]) rfl (show mu_is H (some 91) 3 from h.1.is rfl) ?_
  rw [(h.1.r (p := 91) (j := 1) (q := 96) rfl)]
  refine mw_cV (fun _ => rfl) (show mu_is H (some 96) 10 from h.1.is rfl) (dm.clearr (C := C) (d := (d + 3)) h rfl (j := 20) (by decide) rfl) (fun H1 q1 => ?_)
  obtain ⟨hp1, qt1, ha1, qh1⟩ := q1
  have ht1 := (rl.refl m C H).trans qt1
  have hVc : VO W (ak m H1) := by rw [ha1]; exact hV
  have hVc3 : ak m H1 13 = ak m H 13 := by rw [ha1]; exact fu_ne _ _ (by decide)
  refine mw_go mu_g200 (k := 2) (f1 := (9, [(0, .inr (.inr (some 91))), (1, .inl (nI e))], [.inl (nI e), .inr (.inr (some 91))], H1)) (C := []) rfl trivial ?_
  refine mw_cV (fun _ => rfl) (show mu_is H1 (some 91) 3 from hp1.1.is rfl) (jg_enter2 (C := C) (W := W) (d := d) (e := e) hp1 hVc hW he (by unfold sn at h0 ⊢; rw [hVc3]; exact h0) hC14 hC14b hC20 hC20b) (fun H2 q2 => ?_)
  obtain ⟨hp2, qt2, qh2, hV2⟩ := q2
  have ht2 := ht1.trans qt2
  refine mw_go mu_g200 (k := 2) (f1 := (14, [(2, .inl (0 : Int32)), (0, .inr (.inr (some 91))), (1, .inl (nI e))], [], H2)) (C := []) rfl trivial ?_
  show mu_W _ _ (14, [(2, .inl (nI 0)), (0, .inr (.inr (some 91))), (1, .inl (nI e))], [], H2) _
  refine mw_sub (L' := [(2, .inl (nI 0)), (0, .inr (.inr (some 91)))]) (by simp) ?_
  refine mw_down (α := Nat × mu_H) (fun zs => (14, [(2, .inl (nI zs.1)), (0, .inr (.inr (some 91)))], [], zs.2)) (fun zs => 8002 - zs.1) (fun zs => dm m zs.2 ∧ rl m C H zs.2 ∧ (VO W (ak m zs.2)) ∧ (∀ z, mu_i zs.2 95 z = mu_i H 95 z) ∧ (zs.1 ≤ 8002)) (fun zs hza iha => ?_) (0, H2) ⟨hp2, ht2, (show VO W (ak m H2) from hV2), (show ∀ z, mu_i H2 95 z = mu_i H 95 z from (fun z => (qh2 z).trans ((qh1 z).trans (rfl)))), (show 0 ≤ 8002 from by omega)⟩
  obtain ⟨y, Hsa⟩ := zs
  obtain ⟨hpa, hta, hVs, h95, hy⟩ := hza
  have hpa : dm m Hsa := hpa
  have hta : rl m C H Hsa := hta
  have hVs : VO W (ak m Hsa) := hVs
  have h95 : ∀ z, mu_i Hsa 95 z = mu_i H 95 z := h95
  have hy : y ≤ 8002 := hy
  show mu_W _ _ (14, [(2, .inl (nI y)), (0, .inr (.inr (some 91)))], [], Hsa) _
  refine mw_go mu_g200 (k := 2) (f1 := (18, [(2, .inl (nI y)), (0, .inr (.inr (some 91)))], [.inl (8002 : Int32), .inl (nI y)], Hsa)) (C := []) rfl trivial ?_
  refine mw_if (P := (nI y) < (8002 : Int32)) (a := 21) (b := 139) (fun _ => rfl) trivial (fun h3 => ?_) (fun h3 => ?_)
  · -- 21: (nI y) < (8002 : Int32)
    have hy8 : y < 8002 := (nI_ltI (b := 8002) (by omega) (by decide)).mp h3
    refine mw_go mu_g200 (k := 2) (f1 := (25, [(2, .inl (nI y)), (0, .inr (.inr (some 91)))], [.inr (.inr (mu_r Hsa 91 1))], Hsa)) (C := [mu_is Hsa (some 91) 3]) rfl (show mu_is Hsa (some 91) 3 from hpa.1.is rfl) ?_
    rw [(hpa.1.r (p := 91) (j := 1) (q := 96) rfl)]
    refine mw_go mu_g200 (k := 1) (f1 := (28, [(2, .inl (nI y)), (0, .inr (.inr (some 91)))], [.inl (mu_i Hsa 96 2)], Hsa)) (C := [mu_is Hsa (some 96) 10]) rfl (show mu_is Hsa (some 96) 10 from hpa.1.is rfl) ?_
    rw [(show mu_i Hsa 96 2 = nI ((ak m Hsa) 20).1 from hpa.size rfl (j := 20) (by decide))]
    refine mw_if (P := 0 < (nI ((ak m Hsa) 20).1)) (a := 31) (b := 139) (fun _ => rfl) trivial (fun h4 => ?_) (fun h4 => ?_)
    · -- 31: 0 < (nI ((ak m Hsa) 20).1)
      have z20 : ((ak m Hsa) 20).1 ≤ 67108864 := by have z2 := hVs.2.2.2.2.2; have z3 := cv_le (s := (ak m Hsa)) (v := 1) (n := (W 13).1); omega
      have h020 : 0 < ((ak m Hsa) 20).1 := (nI_ltI (a := 0) (by decide) (by omega)).mp h4
      obtain ⟨r0, hr0⟩ : ∃ r0, r0 + 1 = ((ak m Hsa) 20).1 := ⟨((ak m Hsa) 20).1 - 1, by omega⟩
      obtain ⟨⟨o1, o2⟩, o3, o4, -⟩ := hVs.2.2.2.1 r0 (by omega)
      obtain ⟨eo, heo⟩ : ∃ eo, eo = oe (ak m Hsa) r0 := ⟨_, rfl⟩
      rw [← heo] at o1 o3 o4
      refine mw_go mu_g200 (k := 2) (f1 := (35, [(2, .inl (nI y)), (0, .inr (.inr (some 91)))], [.inr (.inr (mu_r Hsa 91 1))], Hsa)) (C := [mu_is Hsa (some 91) 3]) rfl (show mu_is Hsa (some 91) 3 from hpa.1.is rfl) ?_
      rw [(hpa.1.r (p := 91) (j := 1) (q := 96) rfl)]
      refine mw_go mu_g200 (k := 1) (f1 := (38, [(2, .inl (nI y)), (0, .inr (.inr (some 91)))], [.inl (mu_i Hsa 96 2)], Hsa)) (C := [mu_is Hsa (some 96) 10]) rfl (show mu_is Hsa (some 96) 10 from hpa.1.is rfl) ?_
      rw [(show mu_i Hsa 96 2 = nI ((ak m Hsa) 20).1 from hpa.size rfl (j := 20) (by decide))]
      refine mw_go mu_g200 (k := 3) (f1 := (41, [(3, .inl ((nI ((ak m Hsa) 20).1) - (1 : Int32))), (2, .inl (nI y)), (0, .inr (.inr (some 91)))], [], Hsa)) (C := []) rfl trivial ?_
      rw [show ((nI ((ak m Hsa) 20).1) - (1 : Int32)) = nI r0 from by rw [← hr0]; exact nI_pred r0]
      refine mw_go mu_g200 (k := 2) (f1 := (43, [(3, .inl (nI r0)), (2, .inl (nI y)), (0, .inr (.inr (some 91)))], [.inl (nI r0), .inr (.inr (some 91))], Hsa)) (C := []) rfl trivial ?_
      refine mw_cI (fun _ => rfl) (show mu_is Hsa (some 91) 3 from hpa.1.is rfl) (jg_next2 (C := C) (W := W) (d := d) (r0 := r0) hpa hVs hW hr0) (fun x5 H5 q5 => ?_)
      rcases q5 with ⟨rfl, rfl⟩ | ⟨e2, rfl, he2, hp5, qt5, qh5, hV5, hn5, h135, hs5⟩
      · -- (-1 : Int32)
        refine mw_go mu_g200 (k := 2) (f1 := (50, [(4, .inl (-1 : Int32)), (3, .inl (nI r0)), (2, .inl (nI y)), (0, .inr (.inr (some 91)))], [.inl (-1 : Int32)], Hsa)) (C := []) rfl trivial ?_
        refine mw_if (P := (-1 : Int32) < 0) (a := 53) (b := 108) (fun _ => rfl) trivial (fun h6 => ?_) (fun h6 => absurd (by decide) h6)
        refine mw_go mu_g200 (k := 2) (f1 := (57, [(4, .inl (-1 : Int32)), (3, .inl (nI r0)), (2, .inl (nI y)), (0, .inr (.inr (some 91)))], [.inr (.inr (mu_r Hsa 91 3))], Hsa)) (C := [mu_is Hsa (some 91) 3]) rfl (show mu_is Hsa (some 91) 3 from hpa.1.is rfl) ?_
        rw [hpa.2.2.2]
        refine mw_go mu_g200 (k := 1) (f1 := (60, [(4, .inl (-1 : Int32)), (3, .inl (nI r0)), (2, .inl (nI y)), (0, .inr (.inr (some 91)))], [.inr (.inr (mu_r Hsa m 13))], Hsa)) (C := [mu_is Hsa (some m) 6]) rfl (show mu_is Hsa (some m) 6 from (show mu_is Hsa (some m) 6 from gi_im hpa.1 hpa.2.1)) ?_
        rw [(show mu_r Hsa m 13 = some (m + 27) from (gi_mr hpa.1 hpa.2.1 (j := 13) (by decide)).trans (congrArg some (by omega)))]
        refine mw_go mu_g200 (k := 2) (f1 := (64, [(4, .inl (-1 : Int32)), (3, .inl (nI r0)), (2, .inl (nI y)), (0, .inr (.inr (some 91)))], [.inr (.inr (mu_r Hsa 91 1)), .inr (.inr (some (m + 27)))], Hsa)) (C := [mu_is Hsa (some 91) 3]) rfl (show mu_is Hsa (some 91) 3 from hpa.1.is rfl) ?_
        rw [(hpa.1.r (p := 91) (j := 1) (q := 96) rfl)]
        refine mw_go mu_g200 (k := 2) (f1 := (66, [(4, .inl (-1 : Int32)), (3, .inl (nI r0)), (2, .inl (nI y)), (0, .inr (.inr (some 91)))], [.inl (0 : Int32), .inl (nI r0), .inr (.inr (some 96)), .inr (.inr (some (m + 27)))], Hsa)) (C := []) rfl trivial ?_
        refine mw_cIe (fun _ => rfl) (show mu_is Hsa (some 96) 10 from hpa.1.is rfl) (dm.getr (d := (d + 3)) hpa rfl (j := 20) (by decide) rfl (nI r0) (c := 0) (by decide)) ?_
        rw [show (tget ((ak m Hsa) 20) (nI r0) 0) = (nI eo) from (tget_nI (by omega)).trans o1]
        refine mw_go mu_g200 (k := 2) (f1 := (71, [(4, .inl (-1 : Int32)), (3, .inl (nI r0)), (2, .inl (nI y)), (0, .inr (.inr (some 91)))], [.inl (2 : Int32), .inl (5 : Int32), .inl (nI eo), .inr (.inr (some (m + 27)))], Hsa)) (C := []) rfl trivial ?_
        refine mw_cV (fun _ => rfl) (show mu_is Hsa (some (m + 27)) 10 from (hpa.1.w (md_w13 hpa.2.1)).1) (dm.setr (C := C) (d := (d + 3)) hpa rfl (j := 13) (by decide) rfl (nI eo) (2 : Int32) (c := 5) (by decide)) (fun H8 q8 => ?_)
        obtain ⟨hp8, qt8, ha8, qh8⟩ := q8
        have ht8 := hta.trans qt8
        refine mw_go mu_g200 (k := 2) (f1 := (78, [(4, .inl (-1 : Int32)), (3, .inl (nI r0)), (2, .inl (nI y)), (0, .inr (.inr (some 91)))], [.inr (.inr (mu_r H8 91 3))], H8)) (C := [mu_is H8 (some 91) 3]) rfl (show mu_is H8 (some 91) 3 from hp8.1.is rfl) ?_
        rw [hp8.2.2.2]
        refine mw_go mu_g200 (k := 1) (f1 := (81, [(4, .inl (-1 : Int32)), (3, .inl (nI r0)), (2, .inl (nI y)), (0, .inr (.inr (some 91)))], [.inr (.inr (mu_r H8 m 14))], H8)) (C := [mu_is H8 (some m) 6]) rfl (show mu_is H8 (some m) 6 from (show mu_is H8 (some m) 6 from gi_im hp8.1 hp8.2.1)) ?_
        rw [(show mu_r H8 m 14 = some (m + 29) from (gi_mr hp8.1 hp8.2.1 (j := 14) (by decide)).trans (congrArg some (by omega)))]
        refine mw_go mu_g200 (k := 2) (f1 := (85, [(4, .inl (-1 : Int32)), (3, .inl (nI r0)), (2, .inl (nI y)), (0, .inr (.inr (some 91)))], [.inr (.inr (mu_r H8 91 1)), .inr (.inr (some (m + 29)))], H8)) (C := [mu_is H8 (some 91) 3]) rfl (show mu_is H8 (some 91) 3 from hp8.1.is rfl) ?_
        rw [(hp8.1.r (p := 91) (j := 1) (q := 96) rfl)]
        refine mw_go mu_g200 (k := 2) (f1 := (87, [(4, .inl (-1 : Int32)), (3, .inl (nI r0)), (2, .inl (nI y)), (0, .inr (.inr (some 91)))], [.inl (0 : Int32), .inl (nI r0), .inr (.inr (some 96)), .inr (.inr (some (m + 29)))], H8)) (C := []) rfl trivial ?_
        refine mw_cIe (fun _ => rfl) (show mu_is H8 (some 96) 10 from hp8.1.is rfl) (dm.getr (d := (d + 3)) hp8 ha8 (j := 20) (by decide) rfl (nI r0) (c := 0) (by decide)) ?_
        rw [show (tget ((ax 13 (ak m Hsa) (nI eo) 5 (2 : Int32)) 20) (nI r0) 0) = (nI eo) from (tget_nI (by omega)).trans (by rw [ax_ne (by decide)]; exact o1)]
        refine mw_go mu_g200 (k := 3) (f1 := (93, [(4, .inl (-1 : Int32)), (3, .inl (nI r0)), (2, .inl (nI y)), (0, .inr (.inr (some 91)))], [.inl (0 : Int32), .inl (0 : Int32), .inl (0 : Int32), .inl (nI eo), .inr (.inr (some (m + 29)))], H8)) (C := []) rfl trivial ?_
        refine mw_cI (fun _ => rfl) (show mu_is H8 (some (m + 29)) 10 from (hp8.1.w (md_w14 hp8.2.1)).1) (dm.putr (C := C) (d := (d + 1)) hp8 ha8 (j := 14) (by decide) rfl (nI eo) (0 : Int32) (0 : Int32) (0 : Int32) (by have z2 := hVs.2.2.2.2.1; have hcu := cv_set (s := (ak m Hsa)) (s' := ax 13 (ak m Hsa) (nI eo) 5 2) (v := 2) o3 (fun x hx => ax_c (fun _ z => absurd (z.trans (nI_clamp (by omega))) hx)); have z3 := cv_le (s := ax 13 (ak m Hsa) (nI eo) 5 2) (v := 2) (n := (W 13).1); have z4 : ((ax 13 (ak m Hsa) (nI eo) 5 (2 : Int32)) 14).1 = ((ak m Hsa) 14).1 := (by rw [ax_ne (by decide)]); rw [o4, if_neg (by decide)] at hcu; show 2 * ((((ax 13 (ak m Hsa) (nI eo) 5 (2 : Int32)) 14).1 + 1) * 1) + 1 ≤ C 14; omega) hC14b) (fun x10 H10 q10 => ?_)
        obtain ⟨rfl, hp10, qt10, ha10, qh10⟩ := q10
        have ht10 := ht8.trans qt10
        refine mw_go mu_g200 (k := 3) (f1 := (101, [(4, .inl (-1 : Int32)), (3, .inl (nI r0)), (2, .inl (nI y)), (0, .inr (.inr (some 91)))], [.inr (.inr (mu_r H10 91 1))], H10)) (C := [mu_is H10 (some 91) 3]) rfl (show mu_is H10 (some 91) 3 from hp10.1.is rfl) ?_
        rw [(hp10.1.r (p := 91) (j := 1) (q := 96) rfl)]
        refine mw_go mu_g200 (k := 1) (f1 := (102, [(4, .inl (-1 : Int32)), (3, .inl (nI r0)), (2, .inl (nI y)), (0, .inr (.inr (some 91)))], [.inl (nI r0), .inr (.inr (some 96))], H10)) (C := []) rfl trivial ?_
        refine mw_cV (fun _ => rfl) (show mu_is H10 (some 96) 10 from hp10.1.is rfl) (dm.cutr (C := C) (d := (d + 2)) hp10 ha10 (j := 20) (by decide) rfl (k := r0) (by rw [ap_ne (by decide), ax_ne (by decide)]; omega)) (fun H11 q11 => ?_)
        obtain ⟨hp11, qt11, ha11, qh11⟩ := q11
        have ht11 := ht10.trans qt11
        refine mw_go mu_g200 (k := 3) (f1 := (14, [(2, .inl ((nI y) + 1)), (4, .inl (-1 : Int32)), (3, .inl (nI r0)), (0, .inr (.inr (some 91)))], [], H11)) (C := []) rfl trivial ?_
        rw [nI_1 y]
        exact mw_sub (by simp) (iha (y + 1, H11) ⟨hp11, ht11, (show VO W (ak m H11) from (hVs.pop hr0 heo b13 ha11)), (show ∀ z, mu_i H11 95 z = mu_i H 95 z from (fun z => (qh11 z).trans ((qh10 z).trans ((qh8 z).trans (h95 z))))), (show (y + 1) ≤ 8002 from by omega)⟩ (by show 8002 - (y + 1) < 8002 - y; omega))
      · -- (nI e2)
        have ht5 := hta.trans qt5
        refine mw_go mu_g200 (k := 2) (f1 := (50, [(4, .inl (nI e2)), (3, .inl (nI r0)), (2, .inl (nI y)), (0, .inr (.inr (some 91)))], [.inl (nI e2)], H5)) (C := []) rfl trivial ?_
        refine mw_if (P := (nI e2) < 0) (a := 53) (b := 108) (fun _ => rfl) trivial (fun h12 => ?_) (fun h12 => ?_)
        · -- 53: (nI e2) < 0
          exact absurd h12 (nI_pos (by omega))
        · -- 108: not (nI e2) < 0
          refine mw_go mu_g200 (k := 2) (f1 := (112, [(4, .inl (nI e2)), (3, .inl (nI r0)), (2, .inl (nI y)), (0, .inr (.inr (some 91)))], [.inr (.inr (mu_r H5 91 3))], H5)) (C := [mu_is H5 (some 91) 3]) rfl (show mu_is H5 (some 91) 3 from hp5.1.is rfl) ?_
          rw [hp5.2.2.2]
          refine mw_go mu_g200 (k := 1) (f1 := (115, [(4, .inl (nI e2)), (3, .inl (nI r0)), (2, .inl (nI y)), (0, .inr (.inr (some 91)))], [.inr (.inr (mu_r H5 m 13))], H5)) (C := [mu_is H5 (some m) 6]) rfl (show mu_is H5 (some m) 6 from (show mu_is H5 (some m) 6 from gi_im hp5.1 hp5.2.1)) ?_
          rw [(show mu_r H5 m 13 = some (m + 27) from (gi_mr hp5.1 hp5.2.1 (j := 13) (by decide)).trans (congrArg some (by omega)))]
          refine mw_go mu_g200 (k := 2) (f1 := (118, [(4, .inl (nI e2)), (3, .inl (nI r0)), (2, .inl (nI y)), (0, .inr (.inr (some 91)))], [.inl (5 : Int32), .inl (nI e2), .inr (.inr (some (m + 27)))], H5)) (C := []) rfl trivial ?_
          refine mw_cIe (fun _ => rfl) (show mu_is H5 (some (m + 27)) 10 from (hp5.1.w (md_w13 hp5.2.1)).1) (dm.getr (d := (d + 3)) hp5 rfl (j := 13) (by decide) rfl (nI e2) (c := 5) (by decide)) ?_
          rw [show (tget ((ak m H5) 13) (nI e2) 5) = (sn (ak m H5) e2) from tget_nI (by omega)]
          refine mw_go mu_g200 (k := 1) (f1 := (122, [(4, .inl (nI e2)), (3, .inl (nI r0)), (2, .inl (nI y)), (0, .inr (.inr (some 91)))], [.inl (1 : Int32), .inl (sn (ak m H5) e2)], H5)) (C := []) rfl trivial ?_
          refine mw_if (P := (sn (ak m H5) e2) = (1 : Int32)) (a := 125) (b := 127) (fun _ => rfl) trivial (fun h14 => ?_) (fun h14 => ?_)
          · -- 125: (sn (ak m H5) e2) = (1 : Int32)
            refine mw_go mu_g200 (k := 1) (f1 := (126, [(4, .inl (nI e2)), (3, .inl (nI r0)), (2, .inl (nI y)), (0, .inr (.inr (some 91)))], [.inl (0 : Int32)], H5)) (C := []) rfl trivial ?_
            exact mw_of (fun _ => mu_ret rfl (Or.inl rfl) ⟨_, H5, rfl, Or.inl rfl, hp5, ht5, (fun z => (qh5 z).trans (h95 z)), hV5⟩)
          · -- 127: not (sn (ak m H5) e2) = (1 : Int32)
            refine mw_go mu_g200 (k := 2) (f1 := (130, [(4, .inl (nI e2)), (3, .inl (nI r0)), (2, .inl (nI y)), (0, .inr (.inr (some 91)))], [.inl (nI e2), .inr (.inr (some 91))], H5)) (C := []) rfl trivial ?_
            refine mw_cV (fun _ => rfl) (show mu_is H5 (some 91) 3 from hp5.1.is rfl) (jg_enter2 (C := C) (W := W) (d := d) (e := e2) hp5 hV5 hW he2 ((hV5.2.1 e2 he2).resolve_right (fun z => z.elim h14 (fun z => hs5 (by unfold sn at z ⊢; rw [← h135]; exact z)))) hC14 hC14b hC20 hC20b) (fun H15 q15 => ?_)
            obtain ⟨hp15, qt15, qh15, hV15⟩ := q15
            have ht15 := ht5.trans qt15
            refine mw_go mu_g200 (k := 2) (f1 := (14, [(2, .inl ((nI y) + 1)), (4, .inl (nI e2)), (3, .inl (nI r0)), (0, .inr (.inr (some 91)))], [], H15)) (C := []) rfl trivial ?_
            rw [nI_1 y]
            exact mw_sub (by simp) (iha (y + 1, H15) ⟨hp15, ht15, (show VO W (ak m H15) from hV15), (show ∀ z, mu_i H15 95 z = mu_i H 95 z from (fun z => (qh15 z).trans ((qh5 z).trans (h95 z)))), (show (y + 1) ≤ 8002 from by omega)⟩ (by show 8002 - (y + 1) < 8002 - y; omega))
    · -- 139: not 0 < (nI ((ak m Hsa) 20).1)
      refine mw_go mu_g200 (k := 1) (f1 := (140, [(2, .inl (nI y)), (0, .inr (.inr (some 91)))], [.inl (1 : Int32)], Hsa)) (C := []) rfl trivial ?_
      exact mw_of (fun _ => mu_ret rfl (Or.inr rfl) ⟨_, Hsa, rfl, Or.inr rfl, hpa, hta, h95, hVs⟩)
  · -- 139: not (nI y) < (8002 : Int32)
    refine mw_go mu_g200 (k := 1) (f1 := (140, [(2, .inl (nI y)), (0, .inr (.inr (some 91)))], [.inl (1 : Int32)], Hsa)) (C := []) rfl trivial ?_
    exact mw_of (fun _ => mu_ret rfl (Or.inr rfl) ⟨_, Hsa, rfl, Or.inr rfl, hpa, hta, h95, hVs⟩)
/-- PathProver$Judge.areOrdered()Z -/
abbrev mu_m187 : ev_M := (2, (some .boolean), [], ev_b187)
theorem mu_g187 : mu_good mu_m187 := mu_goodk ev_k187
theorem jg_ordered2 (h : dm m H) (hV : VO W (ac 20 (ak m H) 0)) (hW : JW W) (hC14 : 2 * (((W 13).1 + 1) * 1) + 1 ≤ C 14) (hC14b : C 14 ≤ 8388608) (hC20 : 2 * (((W 13).1 + 1) * 2) + 2 ≤ C 20) (hC20b : C 20 ≤ 8388608) : mu_TI (mu_D (d + 6)) 187 [.inr (.inr (some 91))] H (fun x H1 => (x = 0 ∨ x = 1) ∧ dm m H1 ∧ rl m C H H1 ∧ (∀ z, mu_i H1 95 z = mu_i H 95 z) ∧ VO W (ac 20 (ak m H1) 0)) := by
  have b13 := hW.2.2.2.2.2.2 13 (by decide)
  refine mu_meth (M := mu_m187) rfl rfl ?_
  refine mw_ht (mu_fn_of (show [0].Nodup by decide)) ?_
  refine mw_go mu_g187 (k := 2) (f1 := (2, [(1, .inl (0 : Int32)), (0, .inr (.inr (some 91)))], [], H)) (C := []) rfl trivial ?_
  show mu_W _ _ (2, [(1, .inl (nI 0)), (0, .inr (.inr (some 91)))], [], H) _
  refine mw_sub (L' := [(1, .inl (nI 0)), (0, .inr (.inr (some 91)))]) (by simp) ?_
  refine mw_down (α := Nat × mu_H) (fun zs => (2, [(1, .inl (nI zs.1)), (0, .inr (.inr (some 91)))], [], zs.2)) (fun zs => (W 13).1 - zs.1) (fun zs => dm m zs.2 ∧ rl m C H zs.2 ∧ (VO W (ac 20 (ak m zs.2) 0)) ∧ (∀ z, mu_i zs.2 95 z = mu_i H 95 z) ∧ (zs.1 ≤ (W 13).1)) (fun zs hza iha => ?_) (0, H) ⟨h, (rl.refl m C H), (show VO W (ac 20 (ak m H) 0) from hV), (show ∀ z, mu_i H 95 z = mu_i H 95 z from (fun _ => rfl)), (show 0 ≤ (W 13).1 from by omega)⟩
  obtain ⟨y, Hsa⟩ := zs
  obtain ⟨hpa, hta, hVs, h95, hy⟩ := hza
  have hpa : dm m Hsa := hpa
  have hta : rl m C H Hsa := hta
  have hVs : VO W (ac 20 (ak m Hsa) 0) := hVs
  have h95 : ∀ z, mu_i Hsa 95 z = mu_i H 95 z := h95
  have hy : y ≤ (W 13).1 := hy
  show mu_W _ _ (2, [(1, .inl (nI y)), (0, .inr (.inr (some 91)))], [], Hsa) _
  refine mw_go mu_g187 (k := 3) (f1 := (7, [(1, .inl (nI y)), (0, .inr (.inr (some 91)))], [.inr (.inr (mu_r Hsa 91 3)), .inl (nI y)], Hsa)) (C := [mu_is Hsa (some 91) 3]) rfl (show mu_is Hsa (some 91) 3 from hpa.1.is rfl) ?_
  rw [hpa.2.2.2]
  refine mw_go mu_g187 (k := 1) (f1 := (10, [(1, .inl (nI y)), (0, .inr (.inr (some 91)))], [.inr (.inr (mu_r Hsa m 13)), .inl (nI y)], Hsa)) (C := [mu_is Hsa (some m) 6]) rfl (show mu_is Hsa (some m) 6 from (show mu_is Hsa (some m) 6 from gi_im hpa.1 hpa.2.1)) ?_
  rw [(show mu_r Hsa m 13 = some (m + 27) from (gi_mr hpa.1 hpa.2.1 (j := 13) (by decide)).trans (congrArg some (by omega)))]
  refine mw_go mu_g187 (k := 1) (f1 := (13, [(1, .inl (nI y)), (0, .inr (.inr (some 91)))], [.inl (mu_i Hsa (m + 27) 2), .inl (nI y)], Hsa)) (C := [mu_is Hsa (some (m + 27)) 10]) rfl (show mu_is Hsa (some (m + 27)) 10 from (hpa.1.w (md_w13 hpa.2.1)).1) ?_
  rw [(show mu_i Hsa (m + 27) 2 = nI ((ak m Hsa) 13).1 from hpa.size rfl (j := 13) (by decide))]
  refine mw_if (P := (nI y) < (nI ((ak m Hsa) 13).1)) (a := 16) (b := 47) (fun _ => rfl) trivial (fun h1 => ?_) (fun h1 => ?_)
  · -- 16: (nI y) < (nI ((ak m Hsa) 13).1)
    rw [show ((ak m Hsa) 13).1 = (W 13).1 from hVs.1.2.1] at h1
    have hyN : y < (W 13).1 := (nI_ltI (by omega) (by omega)).mp h1
    refine mw_go mu_g187 (k := 2) (f1 := (20, [(1, .inl (nI y)), (0, .inr (.inr (some 91)))], [.inr (.inr (mu_r Hsa 91 3))], Hsa)) (C := [mu_is Hsa (some 91) 3]) rfl (show mu_is Hsa (some 91) 3 from hpa.1.is rfl) ?_
    rw [hpa.2.2.2]
    refine mw_go mu_g187 (k := 1) (f1 := (23, [(1, .inl (nI y)), (0, .inr (.inr (some 91)))], [.inr (.inr (mu_r Hsa m 13))], Hsa)) (C := [mu_is Hsa (some m) 6]) rfl (show mu_is Hsa (some m) 6 from (show mu_is Hsa (some m) 6 from gi_im hpa.1 hpa.2.1)) ?_
    rw [(show mu_r Hsa m 13 = some (m + 27) from (gi_mr hpa.1 hpa.2.1 (j := 13) (by decide)).trans (congrArg some (by omega)))]
    refine mw_go mu_g187 (k := 2) (f1 := (25, [(1, .inl (nI y)), (0, .inr (.inr (some 91)))], [.inl (5 : Int32), .inl (nI y), .inr (.inr (some (m + 27)))], Hsa)) (C := []) rfl trivial ?_
    refine mw_cIe (fun _ => rfl) (show mu_is Hsa (some (m + 27)) 10 from (hpa.1.w (md_w13 hpa.2.1)).1) (dm.getr (d := (d + 4)) hpa rfl (j := 13) (by decide) rfl (nI y) (c := 5) (by decide)) ?_
    rw [show (tget ((ak m Hsa) 13) (nI y) 5) = (sn (ak m Hsa) y) from tget_nI (by omega)]
    refine mw_if (P := (sn (ak m Hsa) y) = 0) (a := 31) (b := 41) (fun _ => rfl) trivial (fun h3 => ?_) (fun h3 => ?_)
    · -- 31: (sn (ak m Hsa) y) = 0
      refine mw_go mu_g187 (k := 2) (f1 := (33, [(1, .inl (nI y)), (0, .inr (.inr (some 91)))], [.inl (nI y), .inr (.inr (some 91))], Hsa)) (C := []) rfl trivial ?_
      refine mw_cI (fun _ => rfl) (show mu_is Hsa (some 91) 3 from hpa.1.is rfl) (jg_visit2 (C := C) (W := W) (d := d) (e := y) hpa hVs hW hyN h3 hC14 hC14b hC20 hC20b) (fun x4 H4 q4 => ?_)
      obtain ⟨qx4, hp4, qt4, qh4, hV4⟩ := q4
      rcases qx4 with rfl | rfl
      · -- (0 : Int32)
        have ht4 := hta.trans qt4
        refine mw_if (P := (0 : Int32) = 0) (a := 39) (b := 41) (fun _ => rfl) trivial (fun h5 => ?_) (fun h5 => absurd (by decide) h5)
        refine mw_go mu_g187 (k := 1) (f1 := (40, [(1, .inl (nI y)), (0, .inr (.inr (some 91)))], [.inl (0 : Int32)], H4)) (C := []) rfl trivial ?_
        exact mw_of (fun _ => mu_ret rfl (Or.inl rfl) ⟨_, H4, rfl, Or.inl rfl, hp4, ht4, (fun z => (qh4 z).trans (h95 z)), (hV4.clear rfl).1⟩)
      · -- (1 : Int32)
        have ht4 := hta.trans qt4
        refine mw_if (P := (1 : Int32) = 0) (a := 39) (b := 41) (fun _ => rfl) trivial (fun h6 => absurd h6 (by decide)) (fun h6 => ?_)
        refine mw_go mu_g187 (k := 2) (f1 := (2, [(1, .inl ((nI y) + 1)), (0, .inr (.inr (some 91)))], [], H4)) (C := []) rfl trivial ?_
        rw [nI_1 y]
        exact mw_sub (by simp) (iha (y + 1, H4) ⟨hp4, ht4, (show VO W (ac 20 (ak m H4) 0) from (hV4.clear rfl).1), (show ∀ z, mu_i H4 95 z = mu_i H 95 z from (fun z => (qh4 z).trans (h95 z))), (show (y + 1) ≤ (W 13).1 from by omega)⟩ (by show (W 13).1 - (y + 1) < (W 13).1 - y; omega))
    · -- 41: not (sn (ak m Hsa) y) = 0
      refine mw_go mu_g187 (k := 2) (f1 := (2, [(1, .inl ((nI y) + 1)), (0, .inr (.inr (some 91)))], [], Hsa)) (C := []) rfl trivial ?_
      rw [nI_1 y]
      exact mw_sub (by simp) (iha (y + 1, Hsa) ⟨hpa, hta, (show VO W (ac 20 (ak m Hsa) 0) from hVs), (show ∀ z, mu_i Hsa 95 z = mu_i H 95 z from h95), (show (y + 1) ≤ (W 13).1 from by omega)⟩ (by show (W 13).1 - (y + 1) < (W 13).1 - y; omega))
  · -- 47: not (nI y) < (nI ((ak m Hsa) 13).1)
    rw [show ((ak m Hsa) 13).1 = (W 13).1 from hVs.1.2.1] at h1
    refine mw_go mu_g187 (k := 1) (f1 := (48, [(1, .inl (nI y)), (0, .inr (.inr (some 91)))], [.inl (1 : Int32)], Hsa)) (C := []) rfl trivial ?_
    exact mw_of (fun _ => mu_ret rfl (Or.inr rfl) ⟨_, Hsa, rfl, Or.inr rfl, hpa, hta, h95, hVs⟩)
end Order2
