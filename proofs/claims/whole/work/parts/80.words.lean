/-! THE LEXER: words are kept, and found -/
section LexCopy
variable {run : Nat → List ev_V → List ev_C → Option ev_R} {M : ev_M}
theorem mw_copyI {pc idx a t : Nat} {L : mu_L} {S : List mu_V} {n dp sp : Int32} {o0 o1 : Option Nat} {H : mu_H} {Φ : mu_R → Prop} (hf : ev_find M.2.2.2 pc = some (.invokestatic idx, [a])) (h0 : mu_is H o0 (100 + t)) (h1 : mu_is H o1 (100 + t)) (ht : t < 2) (hsp : ¬ sp < 0) (hdp : ¬ dp < 0) (hn : ¬ n < 0) (hl0 : sp.toNatClampNeg + n.toNatClampNeg ≤ mu_n H (mu_p o0)) (hl1 : dp.toNatClampNeg + n.toNatClampNeg ≤ mu_n H (mu_p o1)) (hby : t = 1 → ∀ i, i < n.toNatClampNeg → fits .byte (.int (mu_i H (mu_p o0) (sp.toNatClampNeg + i))) = true) (hS : mu_wds S ≤ 8)
    (h : mu_W run M (pc + 3, L, S, mu_cpi H (mu_p o0) sp.toNatClampNeg (mu_p o1) dp.toNatClampNeg n.toNatClampNeg) Φ) : mu_W run M (pc, L, .inl n :: .inl dp :: .inr (.inr o1) :: .inl sp :: .inr (.inr o0) :: S, H) Φ := fun L0 hs => mu_copyI hf h0 h1 ht hsp hdp hn hl0 hl1 hby hS (h L0 hs)
theorem mw_cAe {pc j pc1 : Nat} {as : List mu_V} {L : mu_L} {S S1 : List mu_V} {H H0 G : mu_H} {C : List Prop} {Φ : mu_R → Prop} {v : Option Nat} (h : ∀ L, mu_clf M (pc, L, S, H0) = some (j, as, pc1, L, S1, H, C)) (hC : mu_all C) (hT : mu_TA run j as H (fun x H1 => x = v ∧ H1 = G)) (hk : mu_W run M (pc1, L, .inr (.inr v) :: S1, G) Φ) : mu_W run M (pc, L, S, H0) Φ := mw_cA h hC hT (fun x H1 q => by rw [q.1, q.2]; exact hk)
end LexCopy
section LexWords
variable {H : mu_H} {d o s e hd : Nat}
/-- PathProver$Lexer.keepWord([BIII)I -/
abbrev mu_m42 : ev_M := (7, (some .int), [], ev_b42)
theorem mu_g42 : mu_good mu_m42 := mu_goodk ev_k42
theorem lx_keep_tail {k : Nat} {e : Int32} {Φ : mu_R → Prop} (h : lw H) (ho : mu_is H (some o) 101) (hs : s + k ≤ mu_n H o) (hon : mu_n H o ≤ 16777216) (hfit : lu H + k ≤ mu_n H (lt7 H)) (hhd : hd < 256) (hsz : (gi_sz H 86 + 1) * 4 ≤ 4194304) (hΦ : ∀ x H1, lw H1 → lf H H1 → lu H1 = lu H + k → gi_sz H1 86 = gi_sz H 86 + 1 → x = nI (gi_sz H 86) → Φ (.inl (some (.inl x)), H1)) : mu_W (mu_D (d + 3)) mu_m42 (41, [(5, .inl (nI k)), (0, .inr (.inr (some 81))), (1, .inr (.inr (some o))), (2, .inl (nI s)), (3, .inl e), (4, .inl (nI hd))], [], H) Φ := by
  have hlen := lw.len h.1
  refine mw_go mu_g42 (k := 7) (f1 := (53, [(5, .inl (nI k)), (0, .inr (.inr (some 81))), (1, .inr (.inr (some o))), (2, .inl (nI s)), (3, .inl e), (4, .inl (nI hd))], [.inl (nI k), .inl (mu_i H 81 8), .inr (.inr (mu_r H 81 7)), .inl (nI s), .inr (.inr (some o))], H)) (C := [mu_is H (some 81) 4, mu_is H (some 81) 4]) rfl ⟨h.1.is rfl, h.1.is rfl⟩ ?_
  rw [h.2.1]
  have cs : (nI s).toNatClampNeg = s := nI_clamp (by omega)
  have ck : (nI k).toNatClampNeg = k := nI_clamp (by omega)
  have cu : (nI (lu H)).toNatClampNeg = lu H := nI_clamp (by omega)
  refine mw_copyI (t := 1) rfl ho (lw.g7 h.1) (by decide) (nI_pos (by omega)) (nI_pos (by omega)) (nI_pos (by omega)) (by rw [cs, ck]; exact hs) (by rw [cu, ck]; exact hfit) (fun _ i hi => ?_) (by decide) ?_
  · rw [ck] at hi
    rw [cs]
    exact h.1.2.2.2.2.2.2.2.2.2 o _ ho.2.1 ho.2.2 (by omega)
  rw [cs, ck, cu]
  obtain ⟨h1, ff1⟩ := h.lay ho hs
  have u1 : lu (mu_cpi H o s (lt7 H) (lu H) k) = lu H := Nat.le_antisymm (by
    have k81 : mu_k H 81 = 4 := h.1.2.1 81 4 rfl
    have h7 := (lw.g7 h.1).2.2
    unfold lu
    rw [mu_i_cpi, if_neg (fun z => by
      have h8 : mu_k H (lt7 H) = 101 := h7
      rw [← z.1] at h8
      omega)]
    exact Nat.le_refl _) ff1.2.2.2.2.1
  have z1 : gi_sz (mu_cpi H o s (lt7 H) (lu H) k) 86 = gi_sz H 86 := by
    have k86 : mu_k H 86 = 10 := h.1.2.1 86 10 rfl
    have h7 := (lw.g7 h.1).2.2
    unfold gi_sz
    rw [mu_i_cpi, if_neg (fun z => by
      have h8 : mu_k H (lt7 H) = 101 := h7
      rw [← z.1] at h8
      omega)]
  have n1 : mu_n (mu_cpi H o s (lt7 H) (lu H) k) (lt7 (mu_cpi H o s (lt7 H) (lu H) k)) = mu_n H (lt7 H) := rfl
  show mu_W (mu_D (d + 3)) mu_m42 (56, [(5, .inl (nI k)), (0, .inr (.inr (some 81))), (1, .inr (.inr (some o))), (2, .inl (nI s)), (3, .inl e), (4, .inl (nI hd))], [], mu_cpi H o s (lt7 H) (lu H) k) Φ
  generalize hT : mu_cpi H o s (lt7 H) (lu H) k = T at h1 ff1 u1 z1 n1 ⊢
  have e1 : mu_i T 81 8 = nI (lu H) := by rw [h1.2.1, u1]
  refine mw_go mu_g42 (k := 2) (f1 := (60, [(5, .inl (nI k)), (0, .inr (.inr (some 81))), (1, .inr (.inr (some o))), (2, .inl (nI s)), (3, .inl e), (4, .inl (nI hd))], [.inr (.inr (mu_r T 81 9))], T)) (C := [mu_is T (some 81) 4]) rfl (show mu_is T (some 81) 4 from h1.1.is rfl) ?_
  rw [(h1.1.r (p := 81) (j := 9) (q := 86) rfl)]
  refine mw_go mu_g42 (k := 2) (f1 := (64, [(5, .inl (nI k)), (0, .inr (.inr (some 81))), (1, .inr (.inr (some o))), (2, .inl (nI s)), (3, .inl e), (4, .inl (nI hd))], [.inl (mu_i T 81 8), .inr (.inr (some 86))], T)) (C := [mu_is T (some 81) 4]) rfl (show mu_is T (some 81) 4 from h1.1.is rfl) ?_
  rw [e1]
  refine mw_go mu_g42 (k := 3) (f1 := (70, [(5, .inl (nI k)), (0, .inr (.inr (some 81))), (1, .inr (.inr (some o))), (2, .inl (nI s)), (3, .inl e), (4, .inl (nI hd))], [.inr (.inr (mu_r T 81 10)), .inl (nI k), .inl (nI (lu H)), .inr (.inr (some 86))], T)) (C := [mu_is T (some 81) 4]) rfl (show mu_is T (some 81) 4 from h1.1.is rfl) ?_
  rw [(h1.1.r (p := 81) (j := 10) (q := 88) rfl)]
  refine mw_go mu_g42 (k := 3) (f1 := (74, [(5, .inl (nI k)), (0, .inr (.inr (some 81))), (1, .inr (.inr (some o))), (2, .inl (nI s)), (3, .inl e), (4, .inl (nI hd))], [.inl (-1 : Int32), .inl (mu_i T 88 (nI hd).toNatClampNeg), .inl (nI k), .inl (nI (lu H)), .inr (.inr (some 86))], T)) (C := [mu_isr T (some 88) 100, vp_in (nI hd) (mu_n T 88)]) rfl (show (mu_isr T (some 88) 100) ∧ (vp_in (nI hd) (mu_n T 88)) from ⟨((h1.1.a (p := 88) (x := (100, 256)) rfl).1).r, (by rw [(h1.1.a (p := 88) (x := (100, 256)) rfl).2]; exact vp_in_nI hhd (by decide))⟩) ?_
  refine mw_cI (fun _ => rfl) (show mu_is T (some 86) 10 from h1.1.is rfl) (gi_put_ok (d := d) h1.1 (r := 86) (W := 4) rfl (by omega) (nI (lu H)) (nI k) (mu_i T 88 (nI hd).toNatClampNeg) (-1 : Int32)) (fun x1 H1 q1 => ?_)
  obtain ⟨qx, qg, qq⟩ := q1
  obtain ⟨hw1, f2, u2⟩ := h1.word (s := lu H) (l := k) (by rw [n1]; omega) qg qq
  have e2 : mu_i H1 81 8 = nI (lu H) := by rw [hw1.2.1, u2, u1]
  have z2 : gi_sz H1 86 = gi_sz H 86 + 1 := by have := qq.2.1; omega
  have n2 : mu_n H1 (lt7 H1) = mu_n H (lt7 H) := by rw [show lt7 H1 = lt7 T from congrArg mu_p ((qq.1.obj (p := 81) (k := 4) rfl rfl).r 7)]; exact (qq.1.2.1 (lt7 T) (lw.g7 h1.1).2.1).2.trans n1
  refine mw_go mu_g42 (k := 3) (f1 := (83, [(6, .inl x1), (5, .inl (nI k)), (0, .inr (.inr (some 81))), (1, .inr (.inr (some o))), (2, .inl (nI s)), (3, .inl e), (4, .inl (nI hd))], [.inr (.inr (mu_r H1 81 10))], H1)) (C := [mu_is H1 (some 81) 4]) rfl (show mu_is H1 (some 81) 4 from hw1.1.is rfl) ?_
  rw [(hw1.1.r (p := 81) (j := 10) (q := 88) rfl)]
  refine mw_go mu_g42 (k := 2) (f1 := (87, [(6, .inl x1), (5, .inl (nI k)), (0, .inr (.inr (some 81))), (1, .inr (.inr (some o))), (2, .inl (nI s)), (3, .inl e), (4, .inl (nI hd))], [.inl x1, .inl (nI hd), .inr (.inr (some 88))], H1)) (C := []) rfl trivial ?_
  refine mw_go mu_g42 (k := 1) (f1 := (88, [(6, .inl x1), (5, .inl (nI k)), (0, .inr (.inr (some 81))), (1, .inr (.inr (some o))), (2, .inl (nI s)), (3, .inl e), (4, .inl (nI hd))], [], (mu_si H1 88 (nI hd).toNatClampNeg x1))) (C := [mu_is H1 (some 88) 100, vp_in (nI hd) (mu_n H1 88)]) rfl ⟨(hw1.1.a (p := 88) (x := (100, 256)) rfl).1, (by rw [(hw1.1.a (p := 88) (x := (100, 256)) rfl).2]; exact vp_in_nI hhd (by decide))⟩ ?_
  rw [show (nI hd).toNatClampNeg = hd from nI_clamp (by omega)]
  obtain ⟨h3, f3⟩ := hw1.heads (i := hd) (x := x1)
  generalize hT3 : mu_si H1 88 hd x1 = T3 at h3 f3 ⊢
  have e3 : mu_i T3 81 8 = nI (lu H) := by rw [f3.2.2.1 8 |> fun _ => show mu_i T3 81 8 = mu_i H1 81 8 from by rw [← hT3]; rfl]; exact e2
  have u3 : lu T3 = lu H := by unfold lu; rw [e3]; exact nI_clamp (by omega)
  have n3 : mu_n T3 (lt7 T3) = mu_n H1 (lt7 H1) := by rw [← hT3]; rfl
  refine mw_go mu_g42 (k := 3) (f1 := (93, [(6, .inl x1), (5, .inl (nI k)), (0, .inr (.inr (some 81))), (1, .inr (.inr (some o))), (2, .inl (nI s)), (3, .inl e), (4, .inl (nI hd))], [.inl (mu_i T3 81 8), .inr (.inr (some 81))], T3)) (C := [mu_is T3 (some 81) 4]) rfl (show mu_is T3 (some 81) 4 from h3.1.is rfl) ?_
  rw [e3]
  refine mw_go mu_g42 (k := 2) (f1 := (96, [(6, .inl x1), (5, .inl (nI k)), (0, .inr (.inr (some 81))), (1, .inr (.inr (some o))), (2, .inl (nI s)), (3, .inl e), (4, .inl (nI hd))], [.inl ((nI (lu H)) + (nI k)), .inr (.inr (some 81))], T3)) (C := []) rfl trivial ?_
  rw [nI_add]
  refine mw_go mu_g42 (k := 2) (f1 := (101, [(6, .inl x1), (5, .inl (nI k)), (0, .inr (.inr (some 81))), (1, .inr (.inr (some o))), (2, .inl (nI s)), (3, .inl e), (4, .inl (nI hd))], [.inl x1], (mu_si T3 81 8 (nI (lu H + k))))) (C := [mu_is T3 (some 81) 4]) rfl (show mu_is T3 (some 81) 4 from h3.1.is rfl) ?_
  -- written 8 (nI (lu H + k))
  obtain ⟨h4, f4, u4⟩ := h3.used (u := lu H + k) (by rw [n3, n2]; omega) (by omega)
  have x1 := qx.trans (congrArg nI z1)
  exact mw_of (fun _ => mu_ret rfl trivial (hΦ _ (mu_si T3 81 8 (nI (lu H + k))) h4 (((ff1.trans f2).trans f3).trans f4) u4 (show gi_sz T3 86 = gi_sz H 86 + 1 from by rw [← z2, ← hT3]; rfl) x1))
theorem lx_keep (h : lw H) (ho : mu_is H (some o) 101) (hse : s ≤ e) (he : e ≤ mu_n H o) (hon : mu_n H o ≤ 16777216) (hhd : hd < 256) (hsz : (gi_sz H 86 + 1) * 4 ≤ 4194304) (hu : lu H + (e - s) ≤ 4000000) : mu_TI (mu_D (d + 4)) 42 [.inr (.inr (some 81)), .inr (.inr (some o)), .inl (nI s), .inl (nI e), .inl (nI hd)] H (fun x H1 => lw H1 ∧ lf H H1 ∧ lu H1 = lu H + (e - s) ∧ gi_sz H1 86 = gi_sz H 86 + 1 ∧ x = nI (gi_sz H 86)) := by
  have hlen := lw.len h.1
  have h7 := lw.g7 h.1
  have hlen2 : mu_n H (mu_p (mu_r H 81 7)) ≤ 16777216 := hlen.2
  refine mu_meth (M := mu_m42) rfl rfl ?_
  refine mw_ht (mu_fn_of (show [0, 1, 2, 3, 4].Nodup by decide)) ?_
  refine mw_go mu_g42 (k := 4) (f1 := (5, [(5, .inl (nI e - nI s)), (0, .inr (.inr (some 81))), (1, .inr (.inr (some o))), (2, .inl (nI s)), (3, .inl (nI e)), (4, .inl (nI hd))], [], H)) (C := []) rfl trivial ?_
  rw [pk_sub hse]
  refine mw_go mu_g42 (k := 7) (f1 := (17, [(5, .inl (nI (e - s))), (0, .inr (.inr (some 81))), (1, .inr (.inr (some o))), (2, .inl (nI s)), (3, .inl (nI e)), (4, .inl (nI hd))], [.inl (Int32.ofNat (mu_n H (mu_p (mu_r H 81 7)))), .inl (mu_i H 81 8 + nI (e - s))], H)) (C := [mu_is H (some 81) 4, mu_is H (some 81) 4, mu_isr H (mu_r H 81 7) (mu_k H (mu_p (mu_r H 81 7))), 100 ≤ mu_k H (mu_p (mu_r H 81 7))]) rfl ⟨h.1.is rfl, h.1.is rfl, ⟨h7.1, Or.inl h7.2.1, rfl⟩, (show 100 ≤ mu_k H (mu_p (mu_r H 81 7)) by rw [h7.2.2]; decide)⟩ ?_
  rw [h.2.1, nI_add]
  refine mw_if (P := Int32.ofNat (mu_n H (mu_p (mu_r H 81 7))) < nI (lu H + (e - s))) (a := 20) (b := 41) (fun _ => rfl) trivial (fun h1 => ?_) (fun h1 => ?_)
  · have hgr : mu_n H (lt7 H) < lu H + (e - s) := (nI_ltI (by omega) (by omega)).mp h1
    refine mw_go mu_g42 (k := 10) (f1 := (35, [(5, .inl (nI (e - s))), (0, .inr (.inr (some 81))), (1, .inr (.inr (some o))), (2, .inl (nI s)), (3, .inl (nI e)), (4, .inl (nI hd))], [.inl ((2 : Int32) * Int32.ofNat (mu_n H (mu_p (mu_r H 81 7))) + nI (e - s)), .inr (.inr (mu_r H 81 7)), .inr (.inr (some 81))], H)) (C := [mu_is H (some 81) 4, mu_is H (some 81) 4, mu_isr H (mu_r H 81 7) (mu_k H (mu_p (mu_r H 81 7))), 100 ≤ mu_k H (mu_p (mu_r H 81 7))]) rfl ⟨h.1.is rfl, h.1.is rfl, ⟨h7.1, Or.inl h7.2.1, rfl⟩, (show 100 ≤ mu_k H (mu_p (mu_r H 81 7)) by rw [h7.2.2]; decide)⟩ ?_
    rw [show (2 : Int32) * Int32.ofNat (mu_n H (mu_p (mu_r H 81 7))) + nI (e - s) = nI (2 * mu_n H (lt7 H) + (e - s)) from by show nI 2 * nI _ + nI _ = _; rw [pk_mul, nI_add]; rfl]
    have hlt : mu_n H (mu_p (mu_r H 81 7)) < 2 * mu_n H (lt7 H) + (e - s) := by show mu_n H (lt7 H) < _; omega
    refine mw_cAe (fun _ => rfl) trivial (mu_copyOfB_ok (d := d + 1) (N := 2 * mu_n H (lt7 H) + (e - s)) h7 (fun i hi => h.1.2.2.2.2.2.2.2.2.2 _ i h7.2.1 h7.2.2 hi) hlt (by omega) h.1.z) ?_
    refine mw_go mu_g42 (k := 1) (f1 := (41, [(5, .inl (nI (e - s))), (0, .inr (.inr (some 81))), (1, .inr (.inr (some o))), (2, .inl (nI s)), (3, .inl (nI e)), (4, .inl (nI hd))], [], mu_sr (mu_cpi (mu_nw H 101 (2 * mu_n H (lt7 H) + (e - s)) (2 * mu_n H (lt7 H) + (e - s))) (mu_p (mu_r H 81 7)) 0 (mu_z H) 0 (mu_n H (mu_p (mu_r H 81 7)))) 81 7 (some (mu_z H)))) (C := [mu_is (mu_cpi (mu_nw H 101 (2 * mu_n H (lt7 H) + (e - s)) (2 * mu_n H (lt7 H) + (e - s))) (mu_p (mu_r H 81 7)) 0 (mu_z H) 0 (mu_n H (mu_p (mu_r H 81 7)))) (some 81) 4]) rfl (show mu_is (mu_nw H 101 (2 * mu_n H (lt7 H) + (e - s)) (2 * mu_n H (lt7 H) + (e - s))) (some 81) 4 from mu_is_nw (h.1.is rfl)) ?_
    obtain ⟨m1, m2, m3, m4, ⟨m5, m6⟩, m7, m8, m9, m10, m11⟩ := h.more (N := 2 * mu_n H (lt7 H) + (e - s)) (by omega) (by omega) rfl
    show mu_W (mu_D (d + 3)) mu_m42 (41, [(5, .inl (nI (e - s))), (0, .inr (.inr (some 81))), (1, .inr (.inr (some o))), (2, .inl (nI s)), (3, .inl (nI e)), (4, .inl (nI hd))], [], mu_sr (mu_cpi (mu_nw H 101 (2 * mu_n H (lt7 H) + (e - s)) (2 * mu_n H (lt7 H) + (e - s))) (lt7 H) 0 (mu_z H) 0 (mu_n H (lt7 H))) 81 7 (some (mu_z H))) _
    generalize mu_sr (mu_cpi (mu_nw H 101 (2 * mu_n H (lt7 H) + (e - s)) (2 * mu_n H (lt7 H) + (e - s))) (lt7 H) 0 (mu_z H) 0 (mu_n H (lt7 H))) 81 7 (some (mu_z H)) = G at m1 m2 m3 m4 m5 m6 m7 m8 m9 m10 m11 ⊢
    have en : mu_n G o = mu_n H o := (m2.2.1 o ho.2.1).2
    have hl := h.2.2.1
    refine lx_keep_tail (k := e - s) m1 (m2.is ho) (by rw [en]; omega) (by rw [en]; exact hon) (by rw [m7, m10]; omega) hhd (by rw [m8]; exact hsz) (fun x H1 w1 w2 w3 w4 w5 => ⟨_, H1, rfl, w1, ?_, by rw [w3, m7], by rw [w4, m8], by rw [w5, m8]⟩)
    obtain ⟨a, b, c, ⟨f1, f2⟩, f, g, i, j⟩ := w2
    refine ⟨m2.trans a, fun j hj => (b j hj).trans (m3 j hj), fun j hj => (c j hj).trans (m4 j), ⟨m5.trans f1, ?_⟩, by omega, by omega, by omega, by omega⟩
    rw [m5.r] at f2
    exact m6.trans f2
  · have hgr : ¬ mu_n H (lt7 H) < lu H + (e - s) := fun z => h1 ((nI_ltI (by omega) (by omega)).mpr z)
    exact lx_keep_tail (k := e - s) h ho (by omega) hon (by omega) hhd hsz (fun x H1 w1 w2 w3 w4 w5 => ⟨_, H1, rfl, w1, w2, w3, w4, w5⟩)
/-- PathProver$Lexer.numberOf([BII)I -/
abbrev mu_m41 : ev_M := (8, (some .int), [], ev_b41)
theorem mu_g41 : mu_good mu_m41 := mu_goodk ev_k41
theorem lx_hd (x : Int32) : ∃ hd, hd < 256 ∧ x &&& (255 : Int32) = nI hd := by
  obtain ⟨j, h1, h2⟩ := pk_andE x (m := 255) 8 rfl
  exact ⟨j, h1, h2⟩
theorem lx_num (h : lw H) (ho : mu_is H (some o) 101) (hse : s ≤ e) (he : e ≤ mu_n H o) (hon : mu_n H o ≤ 16777216) (hsz : (gi_sz H 86 + 1) * 4 ≤ 4194304) (hu : lu H + (e - s) ≤ 4000000) : mu_TI (mu_D (d + 5)) 41 [.inr (.inr (some 81)), .inr (.inr (some o)), .inl (nI s), .inl (nI e)] H (fun _ H1 => lw H1 ∧ lf H H1 ∧ lu H1 ≤ lu H + (e - s) ∧ gi_sz H1 86 ≤ gi_sz H 86 + 1) := by
  refine mu_meth (M := mu_m41) rfl rfl ?_
  refine mw_ht (mu_fn_of (show [0, 1, 2, 3].Nodup by decide)) ?_
  refine mw_go mu_g41 (k := 4) (f1 := (6, [(5, .inl (nI s)), (4, .inl (0 : Int32)), (0, .inr (.inr (some 81))), (1, .inr (.inr (some o))), (2, .inl (nI s)), (3, .inl (nI e))], [], H)) (C := []) rfl trivial ?_
  refine mw_sub (L' := [(4, .inl (0 : Int32)), (5, .inl (nI s)), (0, .inr (.inr (some 81))), (1, .inr (.inr (some o))), (2, .inl (nI s)), (3, .inl (nI e))]) (by simp) ?_
  refine mw_down (α := Int32 × Nat) (fun zs => (6, [(4, .inl zs.1), (5, .inl (nI zs.2)), (0, .inr (.inr (some 81))), (1, .inr (.inr (some o))), (2, .inl (nI s)), (3, .inl (nI e))], [], H)) (fun zs => e - zs.2) (fun zs => (s ≤ zs.2) ∧ (zs.2 ≤ e)) (fun zs hs ih => ?_) ((0 : Int32), s) ⟨(show s ≤ s from by omega), (show s ≤ e from by omega)⟩
  obtain ⟨x, i⟩ := zs
  obtain ⟨hi1, hi2⟩ := hs
  have hi1 : s ≤ i := hi1
  have hi2 : i ≤ e := hi2
  show mu_W _ _ (6, [(4, .inl x), (5, .inl (nI i)), (0, .inr (.inr (some 81))), (1, .inr (.inr (some o))), (2, .inl (nI s)), (3, .inl (nI e))], [], H) _
  refine mw_go mu_g41 (k := 2) (f1 := (9, [(4, .inl x), (5, .inl (nI i)), (0, .inr (.inr (some 81))), (1, .inr (.inr (some o))), (2, .inl (nI s)), (3, .inl (nI e))], [.inl (nI e), .inl (nI i)], H)) (C := []) rfl trivial ?_
  refine mw_if (P := (nI i) < (nI e)) (a := 12) (b := 30) (fun _ => rfl) trivial (fun h1 => ?_) (fun h1 => ?_)
  · -- 12: (nI i) < (nI e)
    have hie : i < e := (nI_ltI (by omega) (by omega)).mp h1
    refine mw_go mu_g41 (k := 10) (f1 := (6, [(5, .inl ((nI i) + 1)), (4, .inl ((x * (31 : Int32)) + (mu_i H o (nI i).toNatClampNeg))), (0, .inr (.inr (some 81))), (1, .inr (.inr (some o))), (2, .inl (nI s)), (3, .inl (nI e))], [], H)) (C := [mu_isr H (some o) 101, vp_in (nI i) (mu_n H o)]) rfl (show (mu_isr H (some o) 101) ∧ (vp_in (nI i) (mu_n H o)) from ⟨ho.r, (vp_in_nI (by omega) (by omega))⟩) ?_
    rw [nI_1]
    exact mw_sub (by simp) (ih (((x * (31 : Int32)) + (mu_i H o (nI i).toNatClampNeg)), i + 1) ⟨(show s ≤ (i + 1) from by omega), (show (i + 1) ≤ e from by omega)⟩ (by show e - (i + 1) < e - i; omega))
  · -- 30: not (nI i) < (nI e)
    refine mw_go mu_g41 (k := 8) (f1 := (44, [(5, .inl ((x ^^^ ((x.toUInt32 >>> ((8 : Int32).toUInt32 &&& Int32.toUInt32 31)).toInt32)) &&& (255 : Int32))), (4, .inl x), (0, .inr (.inr (some 81))), (1, .inr (.inr (some o))), (2, .inl (nI s)), (3, .inl (nI e))], [], H)) (C := []) rfl trivial ?_
    obtain ⟨hd, hhd, ehd⟩ := lx_hd _
    rw [ehd]
    refine mw_go mu_g41 (k := 2) (f1 := (48, [(5, .inl (nI hd)), (4, .inl x), (0, .inr (.inr (some 81))), (1, .inr (.inr (some o))), (2, .inl (nI s)), (3, .inl (nI e))], [.inr (.inr (mu_r H 81 10))], H)) (C := [mu_is H (some 81) 4]) rfl (show mu_is H (some 81) 4 from h.1.is rfl) ?_
    rw [(h.1.r (p := 81) (j := 10) (q := 88) rfl)]
    refine mw_go mu_g41 (k := 5) (f1 := (56, [(7, .inl (0 : Int32)), (6, .inl (mu_i H 88 (nI hd).toNatClampNeg)), (5, .inl (nI hd)), (4, .inl x), (0, .inr (.inr (some 81))), (1, .inr (.inr (some o))), (2, .inl (nI s)), (3, .inl (nI e))], [], H)) (C := [mu_isr H (some 88) 100, vp_in (nI hd) (mu_n H 88)]) rfl (show (mu_isr H (some 88) 100) ∧ (vp_in (nI hd) (mu_n H 88)) from ⟨((h.1.a (p := 88) (x := (100, 256)) rfl).1).r, (by rw [(h.1.a (p := 88) (x := (100, 256)) rfl).2]; exact vp_in_nI hhd (by decide))⟩) ?_
    show mu_W _ _ (56, [(7, .inl (nI 0)), (6, .inl (mu_i H 88 (nI hd).toNatClampNeg)), (5, .inl (nI hd)), (4, .inl x), (0, .inr (.inr (some 81))), (1, .inr (.inr (some o))), (2, .inl (nI s)), (3, .inl (nI e))], [], H) _
    refine mw_sub (L' := [(6, .inl (mu_i H 88 (nI hd).toNatClampNeg)), (7, .inl (nI 0)), (0, .inr (.inr (some 81))), (1, .inr (.inr (some o))), (2, .inl (nI s)), (3, .inl (nI e)), (5, .inl (nI hd))]) (by simp) ?_
    refine mw_down (α := Int32 × Nat) (fun zs => (56, [(6, .inl zs.1), (7, .inl (nI zs.2)), (0, .inr (.inr (some 81))), (1, .inr (.inr (some o))), (2, .inl (nI s)), (3, .inl (nI e)), (5, .inl (nI hd))], [], H)) (fun zs => 2147483648 - zs.2) (fun zs => (zs.2 < 2147483648)) (fun zs hs ih => ?_) ((mu_i H 88 (nI hd).toNatClampNeg), 0) (show 0 < 2147483648 from by omega)
    obtain ⟨w, k⟩ := zs
    have hks := hs
    have hks : k < 2147483648 := hks
    show mu_W _ _ (56, [(6, .inl w), (7, .inl (nI k)), (0, .inr (.inr (some 81))), (1, .inr (.inr (some o))), (2, .inl (nI s)), (3, .inl (nI e)), (5, .inl (nI hd))], [], H) _
    refine mw_go mu_g41 (k := 3) (f1 := (62, [(6, .inl w), (7, .inl (nI k)), (0, .inr (.inr (some 81))), (1, .inr (.inr (some o))), (2, .inl (nI s)), (3, .inl (nI e)), (5, .inl (nI hd))], [.inr (.inr (mu_r H 81 9)), .inl (nI k)], H)) (C := [mu_is H (some 81) 4]) rfl (show mu_is H (some 81) 4 from h.1.is rfl) ?_
    rw [(h.1.r (p := 81) (j := 9) (q := 86) rfl)]
    refine mw_go mu_g41 (k := 1) (f1 := (65, [(6, .inl w), (7, .inl (nI k)), (0, .inr (.inr (some 81))), (1, .inr (.inr (some o))), (2, .inl (nI s)), (3, .inl (nI e)), (5, .inl (nI hd))], [.inl (mu_i H 86 2), .inl (nI k)], H)) (C := [mu_is H (some 86) 10]) rfl (show mu_is H (some 86) 10 from h.1.is rfl) ?_
    refine mw_if (P := (nI k) < (mu_i H 86 2)) (a := 68) (b := 106) (fun _ => rfl) trivial (fun h2 => ?_) (fun h2 => ?_)
    · -- 68: (nI k) < (mu_i H 86 2)
      have hk2 := nI_up hks h2
      refine mw_go mu_g41 (k := 1) (f1 := (70, [(6, .inl w), (7, .inl (nI k)), (0, .inr (.inr (some 81))), (1, .inr (.inr (some o))), (2, .inl (nI s)), (3, .inl (nI e)), (5, .inl (nI hd))], [.inl w], H)) (C := []) rfl trivial ?_
      refine mw_if (P := w < 0) (a := 106) (b := 73) (fun _ => rfl) trivial (fun h3 => ?_) (fun h3 => ?_)
      · -- 106: w < 0
        refine mw_go mu_g41 (k := 5) (f1 := (112, [(6, .inl w), (7, .inl (nI k)), (0, .inr (.inr (some 81))), (1, .inr (.inr (some o))), (2, .inl (nI s)), (3, .inl (nI e)), (5, .inl (nI hd))], [.inl (nI hd), .inl (nI e), .inl (nI s), .inr (.inr (some o)), .inr (.inr (some 81))], H)) (C := []) rfl trivial ?_
        refine mw_cI (fun _ => rfl) (show mu_is H (some 81) 4 from h.1.is rfl) (lx_keep (d := d) (hd := hd) h ho hse he hon hhd hsz hu) (fun x4 H4 q4 => ?_)
        obtain ⟨w1, w2, w3, w4, w5⟩ := q4
        exact mw_of (fun _ => mu_ret rfl trivial ⟨_, H4, rfl, w1, w2, by omega, by omega⟩)
      · -- 73: not w < 0
        refine mw_go mu_g41 (k := 5) (f1 := (79, [(6, .inl w), (7, .inl (nI k)), (0, .inr (.inr (some 81))), (1, .inr (.inr (some o))), (2, .inl (nI s)), (3, .inl (nI e)), (5, .inl (nI hd))], [.inl (nI e), .inl (nI s), .inr (.inr (some o)), .inl w, .inr (.inr (some 81))], H)) (C := []) rfl trivial ?_
        refine mw_cI (fun _ => rfl) (show mu_is H (some 81) 4 from h.1.is rfl) (lx_isWord_ok (d := (d + 2)) (q := 81) (wq := 86) (w := w) (s := s) (e := e) (h.1.is rfl) (h.1.r (p := 81) (j := 9) (q := 86) rfl).symm (h.1.w (r := 86) (W := 4) rfl) (lw.g7 h.1).r (by have := (lw.len h.1).2; show mu_n H (lt7 H) < 2 ^ 31; omega) ho.r (by show mu_n H o < 2 ^ 31; omega) hse he (fun z1 z2 => h.row (by omega) z2 (by omega))) (fun x5 H5 q5 => ?_)
        obtain ⟨qx5, rfl⟩ := q5
        refine mw_if (P := x5 = 0) (a := 88) (b := 85) (fun _ => rfl) trivial (fun h6 => ?_) (fun h6 => ?_)
        · -- 88: x5 = 0
          refine mw_go mu_g41 (k := 2) (f1 := (92, [(6, .inl w), (7, .inl (nI k)), (0, .inr (.inr (some 81))), (1, .inr (.inr (some o))), (2, .inl (nI s)), (3, .inl (nI e)), (5, .inl (nI hd))], [.inr (.inr (mu_r H5 81 9))], H5)) (C := [mu_is H5 (some 81) 4]) rfl (show mu_is H5 (some 81) 4 from h.1.is rfl) ?_
          rw [(h.1.r (p := 81) (j := 9) (q := 86) rfl)]
          refine mw_go mu_g41 (k := 2) (f1 := (95, [(6, .inl w), (7, .inl (nI k)), (0, .inr (.inr (some 81))), (1, .inr (.inr (some o))), (2, .inl (nI s)), (3, .inl (nI e)), (5, .inl (nI hd))], [.inl (2 : Int32), .inl w, .inr (.inr (some 86))], H5)) (C := []) rfl trivial ?_
          refine mw_cIe (fun _ => rfl) (show mu_is H5 (some 86) 10 from h.1.is rfl) (gi_get_ok (d := (d + 3)) h.1 (r := 86) (W := 4) rfl w (j := 2) (by decide)) ?_
          refine mw_go mu_g41 (k := 3) (f1 := (56, [(7, .inl ((nI k) + 1)), (6, .inl (rw_get H5 86 4 (gi_sz H5 86) w 2)), (0, .inr (.inr (some 81))), (1, .inr (.inr (some o))), (2, .inl (nI s)), (3, .inl (nI e)), (5, .inl (nI hd))], [], H5)) (C := []) rfl trivial ?_
          rw [nI_1]
          exact mw_sub (by simp) (ih ((rw_get H5 86 4 (gi_sz H5 86) w 2), k + 1) (show (k + 1) < 2147483648 from by omega) (by show 2147483648 - (k + 1) < 2147483648 - k; omega))
        · -- 85: not x5 = 0
          refine mw_go mu_g41 (k := 1) (f1 := (87, [(6, .inl w), (7, .inl (nI k)), (0, .inr (.inr (some 81))), (1, .inr (.inr (some o))), (2, .inl (nI s)), (3, .inl (nI e)), (5, .inl (nI hd))], [.inl w], H5)) (C := []) rfl trivial ?_
          exact mw_of (fun _ => mu_ret rfl trivial ⟨_, H5, rfl, h, lf.refl _, by omega, by omega⟩)
    · -- 106: not (nI k) < (mu_i H 86 2)
      refine mw_go mu_g41 (k := 5) (f1 := (112, [(6, .inl w), (7, .inl (nI k)), (0, .inr (.inr (some 81))), (1, .inr (.inr (some o))), (2, .inl (nI s)), (3, .inl (nI e)), (5, .inl (nI hd))], [.inl (nI hd), .inl (nI e), .inl (nI s), .inr (.inr (some o)), .inr (.inr (some 81))], H)) (C := []) rfl trivial ?_
      refine mw_cI (fun _ => rfl) (show mu_is H (some 81) 4 from h.1.is rfl) (lx_keep (d := d) (hd := hd) h ho hse he hon hhd hsz hu) (fun x8 H8 q8 => ?_)
      obtain ⟨w1, w2, w3, w4, w5⟩ := q8
      exact mw_of (fun _ => mu_ret rfl trivial ⟨_, H8, rfl, w1, w2, by omega, by omega⟩)
end LexWords
