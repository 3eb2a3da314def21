/-! The reference: the next token (advance) -/
theorem mw_newo {run : Nat → List ev_V → List ev_C → Option ev_R} {M : ev_M} {pc idx a b d ci : Nat} {L : mu_L} {S : List mu_V} {H : mu_H} {Φ : mu_R → Prop} (hf : ev_find M.2.2.2 pc = some (.new idx, [a, b, d, ci])) (hci : ci < 21) (hz : mu_z H + 1 ≤ 1000000) (h : mu_W run M (pc + 3, L, .inr (.inr (some (mu_z H))) :: S, mu_nw H ci 0 (mu_ft ci).length) Φ) : mu_W run M (pc, L, S, H) Φ := fun L0 hs => mu_newo hf hci hz (h L0 hs)
/-- the token that stands at p: its number, where it begins, where it ends -/
def tkp (T : Nat → Int32) (n p : Nat) : Int32 × Nat × Nat := if p = n then (0, p, p) else if ltz (lta T n p) = 0 then (if dgz (lta T n p) = 0 then (if fsz T n p 27 0 < 27 then (nI (10 + fsz T n p 27 0), p, p + (sgt (fsz T n p 27 0)).length) else (1, p, p)) else (if 32767 < (nuz T n (n + 1) 0 p).1 then 1 else 3, p, (nuz T n (n + 1) 0 p).2)) else (2, p, wez T n (n + 1) p)
/-- the next token behind a -/
noncomputable def tkz (T : Nat → Int32) (n a : Nat) : Int32 × Nat × Nat := tkp T n (skz T n (n + 1) a)
theorem nuz_le {T : Nat → Int32} {n : Nat} : ∀ f v a, a ≤ n → a ≤ (nuz T n f v a).2 ∧ (nuz T n f v a).2 ≤ n
  | 0, v, a, h => ⟨Nat.le_refl _, h⟩
  | f + 1, v, a, h => by
    rw [nuz]
    by_cases e : dgz (lta T n a) = 0
    · rw [if_pos e]; exact ⟨Nat.le_refl _, h⟩
    · rw [if_neg e]
      have := lta_in (Or.inr e)
      have := nuz_le (T := T) (n := n) f (mu_min 40000 (10 * v + T a - 48)) (a + 1) (by omega)
      omega
theorem fsz_in {T : Nat → Int32} {n p : Nat} (hp : p ≤ n) : ∀ m s, s + m = 27 → fsz T n p m s < 27 → p + (sgt (fsz T n p m s)).length ≤ n
  | 0, s, h, h2 => by
    have : fsz T n p 0 s = s := rfl
    omega
  | m + 1, s, h, h2 => by
    rw [fsz] at h2 ⊢
    by_cases e : ftz T n p (sgt s) = 0
    · rw [if_pos e] at h2 ⊢
      exact fsz_in hp m (s + 1) (by omega) h2
    · rw [if_neg e]
      by_cases e2 : p + (sgt s).length ≤ n
      · exact e2
      · exact absurd (if_neg e2) e
theorem tkz_le {T : Nat → Int32} {n a : Nat} (h : a ≤ n) : a ≤ (tkz T n a).2.1 ∧ (tkz T n a).2.1 ≤ (tkz T n a).2.2 ∧ (tkz T n a).2.2 ≤ n := by
  unfold tkz
  have hs := skz_le (T := T) (n := n) (n + 1) a h
  generalize skz T n (n + 1) a = p at hs
  have h1 := wez_le (T := T) (n := n) (n + 1) p hs.2
  have h2 := nuz_le (T := T) (n := n) (n + 1) 0 p hs.2
  have h3 := fsz_in (T := T) (n := n) (p := p) hs.2 27 0 rfl
  unfold tkp
  by_cases e1 : p = n
  · rw [if_pos e1]; exact ⟨hs.1, Nat.le_refl _, hs.2⟩
  · rw [if_neg e1]
    by_cases e2 : ltz (lta T n p) = 0
    · rw [if_pos e2]
      by_cases e3 : dgz (lta T n p) = 0
      · rw [if_pos e3]
        by_cases e4 : fsz T n p 27 0 < 27
        · rw [if_pos e4]; exact ⟨hs.1, Nat.le_add_right _ _, h3 e4⟩
        · rw [if_neg e4]; exact ⟨hs.1, Nat.le_refl _, hs.2⟩
      · rw [if_neg e3]; exact ⟨hs.1, h2.1, h2.2⟩
    · rw [if_neg e2]; exact ⟨hs.1, h1.1, h1.2⟩
/-- what advance leaves: the token t that began at f and ended at e -/
def adp (T : Nat → Int32) (n : Nat) (t : Int32 × Nat × Nat) (H H1 : mu_H) : Prop := mu_i H1 169 7 = t.1 ∧ mu_i H1 169 8 = nI t.2.1 ∧ mu_i H1 169 6 = nI t.2.2 ∧ (t.1 = 3 → mu_i H1 169 10 = (nuz T n (n + 1) 0 t.2.1).1) ∧ (t.1 = 2 → ∃ q, mu_r H1 169 11 = some q ∧ mu_z H ≤ q ∧ q < 1000000 ∧ mu_z H ≤ mu_p (sbv H1 (some q)) ∧ mu_p (sbv H1 (some q)) < 1000000 ∧ sb H1 (some q) (slc T t.2.1 t.2.2))
theorem wez_asc {T : Nat → Int32} {n : Nat} : ∀ f a j, a ≤ j → j < wez T n f a → ∃ x : Nat, x < 128 ∧ T j = nI x
  | 0, a, j, h1, h2 => by
    have : wez T n 0 a = a := rfl
    omega
  | f + 1, a, j, h1, h2 => by
    rw [wez] at h2
    have key : (¬ ltz (lta T n a) = 0 ∨ ¬ dgz (lta T n a) = 0) → j < wez T n f (a + 1) → ∃ x : Nat, x < 128 ∧ T j = nI x := by
      intro hc hj
      by_cases e : j = a
      · have hl := lta_in hc
        have hc := asc_of hc
        rw [show lta T n a = T a from if_pos hl] at hc
        rw [e]
        exact hc
      · exact wez_asc f (a + 1) j (by omega) hj
    by_cases e1 : ltz (lta T n a) = 0
    · rw [if_pos e1] at h2
      by_cases e2 : dgz (lta T n a) = 0
      · rw [if_pos e2] at h2; omega
      · rw [if_neg e2] at h2; exact key (Or.inr e2) h2
    · rw [if_neg e1] at h2; exact key (Or.inl e1) h2
theorem sbv_sr {H : mu_H} {q k : Nat} {x : Option Nat} (h : q ≠ 169) : sbv (mu_sr H 169 k x) (some q) = sbv H (some q) := by
  unfold sbv
  split
  · rfl
  · show (if q = 169 ∧ 0 = k then x else mu_r H q 0) = mu_r H q 0
    rw [if_neg (fun z => h z.1)]
/-- advance -/
theorem rf_advance {d n a : Nat} {T : Nat → Int32} {H : mu_H} (h : rgd H) (ht : rtp H T n) (ha : mu_i H 169 6 = nI a) (han : a ≤ n) (hz : mu_z H + ((tkz T n a).2.2 - (tkz T n a).2.1) + 20 ≤ 1000000) : mu_TV (mu_D (d + 7)) 51 [.inr (.inr (some 169))] H (fun H1 => rgd H1 ∧ rtp H1 T n ∧ adp T n (tkz T n a) H H1 ∧ rfr [6, 7, 8, 10] [11] (fun _ => False) ((tkz T n a).2.2 - a + 4) (5 * ((tkz T n a).2.2 - a) + 40) H H1) := by
  unfold tkz at hz
  have hs := skz_le (T := T) (n := n) (n + 1) a han
  have hn := ht.2.1
  refine mu_meth (M := mu_m51) rfl rfl ?_
  refine mw_ht (mu_fn_of (show [0].Nodup by decide)) ?_
  refine mw_go mu_g51 (k := 1) (f1 := (1, [(0, .inr (.inr (some 169)))], [.inr (.inr (some 169))], H)) (C := []) rfl trivial ?_
  refine mw_cVe (fun _ => rfl) (show mu_is H (some 169) 1 from h.is) (rf_skip h ht ha han) ?_
  unfold tkz
  generalize skz T n (n + 1) a = p at hs hz ⊢
  refine mw_go mu_g51 (k := 8) (f1 := (20, [(0, .inr (.inr (some 169)))], [.inl (mu_i H 169 2), .inl (nI p)], (mu_si (mu_si H 169 6 (nI p)) 169 8 (nI p)))) (C := [mu_is H (some 169) 1, mu_is H (some 169) 1, mu_is H (some 169) 1, mu_is H (some 169) 1]) rfl (show (mu_is H (some 169) 1) ∧ (mu_is H (some 169) 1) ∧ (mu_is H (some 169) 1) ∧ (mu_is H (some 169) 1) from ⟨h.is, h.is, h.is, h.is⟩) ?_
  refine mw_fr (f' := (20, [(0, .inr (.inr (some 169)))], [.inl (nI n), .inl (nI p)], (mu_si (mu_si H 169 6 (nI p)) 169 8 (nI p)))) (by first | (rw [ht.1]; done) | (rw [ht.1]; rfl)) ?_
  refine mw_if (P := (nI p) = (nI n)) (a := 23) (b := 29) (fun _ => rfl) trivial (fun h1 => ?_) (fun h1 => ?_)
  · -- 23
    refine mw_go mu_g51 (k := 3) (f1 := (28, [(0, .inr (.inr (some 169)))], [], (mu_si (mu_si (mu_si H 169 6 (nI p)) 169 8 (nI p)) 169 7 (0 : Int32)))) (C := [mu_is H (some 169) 1]) rfl (show mu_is H (some 169) 1 from h.is) ?_
    refine mw_of (fun _ => mu_ret rfl trivial ⟨_, rfl, h, ht, ?_, ?_⟩)
    · rw [show tkp T n p = (0, p, p) from if_pos (rI_inj (by omega) (by omega) h1)]
      exact ⟨rfl, rfl, rfl, (fun z => absurd (show (0 : Int32) = 3 from z) (by decide)), (fun z => absurd (show (0 : Int32) = 2 from z) (by decide))⟩
    · exact (((rfr.rf.si (j := 6) (by decide)).si (j := 8) (by decide)).si (j := 7) (by decide)).wk (fun _ z => z) (fun _ z => z) (fun _ _ z => z) (by omega) (by omega)
  · -- 29
    have hpn : ¬ p = n := fun z => h1 (by rw [z])
    refine mw_go mu_g51 (k := 3) (f1 := (34, [(0, .inr (.inr (some 169)))], [.inl (nI p), .inr (.inr (some 169))], (mu_si (mu_si H 169 6 (nI p)) 169 8 (nI p)))) (C := [mu_is H (some 169) 1]) rfl (show mu_is H (some 169) 1 from h.is) ?_
    refine mw_cIe (fun _ => rfl) (show mu_is H (some 169) 1 from h.is) (rf_letter (H := (mu_si (mu_si H 169 6 (nI p)) 169 8 (nI p))) (T := T) (n := n) (k := p) h ht (by omega)) ?_
    refine mw_if (P := (ltz (lta T n p)) = 0) (a := 128) (b := 40) (fun _ => rfl) trivial (fun h2 => ?_) (fun h2 => ?_)
    · -- 128
      refine mw_go mu_g51 (k := 3) (f1 := (133, [(0, .inr (.inr (some 169)))], [.inl (nI p), .inr (.inr (some 169))], (mu_si (mu_si H 169 6 (nI p)) 169 8 (nI p)))) (C := [mu_is H (some 169) 1]) rfl (show mu_is H (some 169) 1 from h.is) ?_
      refine mw_cIe (fun _ => rfl) (show mu_is H (some 169) 1 from h.is) (rf_digit (H := (mu_si (mu_si H 169 6 (nI p)) 169 8 (nI p))) (T := T) (n := n) (k := p) h ht (by omega)) ?_
      refine mw_if (P := (dgz (lta T n p)) = 0) (a := 218) (b := 139) (fun _ => rfl) trivial (fun h3 => ?_) (fun h3 => ?_)
      · -- 218
        refine mw_go mu_g51 (k := 5) (f1 := (225, [(1, .inl (0 : Int32)), (0, .inr (.inr (some 169)))], [], (mu_si (mu_si (mu_si H 169 6 (nI p)) 169 8 (nI p)) 169 7 (1 : Int32)))) (C := [mu_is H (some 169) 1]) rfl (show mu_is H (some 169) 1 from h.is) ?_
        refine mw_sub (L' := [(1, .inl (nI 0)), (0, .inr (.inr (some 169)))]) (by simp [nI]) ?_
        refine rf_sign0 (H := (mu_si (mu_si (mu_si H 169 6 (nI p)) 169 8 (nI p)) 169 7 (1 : Int32))) (T := T) (n := n) (p := p) h ht rfl hs.2 rfl 27 0 rfl ?_
        by_cases e : fsz T n p 27 0 < 27
        · rw [if_pos e]
          refine ⟨h, ht, ?_, ?_⟩
          · rw [show tkp T n p = (nI (10 + fsz T n p 27 0), p, p + (sgt (fsz T n p 27 0)).length) from (if_neg hpn).trans ((if_pos h2).trans ((if_pos h3).trans (if_pos e)))]
            refine ⟨rfl, rfl, rfl, fun z => absurd (rI_inj (b := 3) (by omega) (by decide) z) (by omega), fun z => absurd (rI_inj (b := 2) (by omega) (by decide) z) (by omega)⟩
          · exact (((((rfr.rf.si (j := 6) (by decide)).si (j := 8) (by decide)).si (j := 7) (by decide)).si (j := 7) (by decide)).si (j := 6) (by decide)).wk (fun _ z => z) (fun _ z => z) (fun _ _ z => z) (by omega) (by omega)
        · rw [if_neg e]
          refine ⟨h, ht, ?_, ?_⟩
          · rw [show tkp T n p = (1, p, p) from (if_neg hpn).trans ((if_pos h2).trans ((if_pos h3).trans (if_neg e)))]
            exact ⟨rfl, rfl, rfl, fun z => absurd (show (1 : Int32) = 3 from z) (by decide), fun z => absurd (show (1 : Int32) = 2 from z) (by decide)⟩
          · exact (((rfr.rf.si (j := 6) (by decide)).si (j := 8) (by decide)).si (j := 7) (by decide)).wk (fun _ z => z) (fun _ z => z) (fun _ _ z => z) (by omega) (by omega)
      · -- 139
        refine mw_go mu_g51 (k := 3) (f1 := (144, [(0, .inr (.inr (some 169)))], [], (mu_si (mu_si (mu_si H 169 6 (nI p)) 169 8 (nI p)) 169 10 (0 : Int32)))) (C := [mu_is H (some 169) 1]) rfl (show mu_is H (some 169) 1 from h.is) ?_
        refine mw_fr (f' := (144, [(0, .inr (.inr (some 169)))], [], (mu_si (mu_si (mu_si H 169 8 (nI p)) 169 10 (0 : Int32)) 169 6 (nI p)))) (by rw [mu_si_comm _ _ _ _ (show 6 ≠ 8 by decide), mu_si_comm _ _ _ _ (show 6 ≠ 10 by decide)]) ?_
        refine rf_num0 (H := mu_si H 169 8 (nI p)) (T := T) (n := n) h ht (n + 1) 0 p (by omega) hs.2 ?_
        refine mw_go mu_g51 (k := 4) (f1 := (206, [(0, .inr (.inr (some 169)))], [.inl (32767 : Int32), .inl (nuz T n (n + 1) 0 p).1, .inr (.inr (some 169))], (mu_si (mu_si (mu_si H 169 8 (nI p)) 169 10 (nuz T n (n + 1) 0 p).1) 169 6 (nI (nuz T n (n + 1) 0 p).2)))) (C := [mu_is H (some 169) 1]) rfl (show mu_is H (some 169) 1 from h.is) ?_
        refine mw_if (P := (32767 : Int32) < (nuz T n (n + 1) 0 p).1) (a := 209) (b := 213) (fun _ => rfl) trivial (fun h4 => ?_) (fun h4 => ?_)
        · -- 209
          refine mw_go mu_g51 (k := 3) (f1 := (217, [(0, .inr (.inr (some 169)))], [], (mu_si (mu_si (mu_si (mu_si H 169 8 (nI p)) 169 10 (nuz T n (n + 1) 0 p).1) 169 6 (nI (nuz T n (n + 1) 0 p).2)) 169 7 (1 : Int32)))) (C := [mu_is H (some 169) 1]) rfl (show mu_is H (some 169) 1 from h.is) ?_
          refine mw_of (fun _ => mu_ret rfl trivial ⟨_, rfl, h, ht, ?_, ?_⟩)
          · rw [show tkp T n p = (1, p, (nuz T n (n + 1) 0 p).2) from (if_neg hpn).trans ((if_pos h2).trans ((if_neg h3).trans (by rw [if_pos h4])))]
            exact ⟨rfl, rfl, rfl, (fun z => absurd (show (1 : Int32) = 3 from z) (by decide)), (fun z => absurd (show (1 : Int32) = 2 from z) (by decide))⟩
          · exact ((((rfr.rf.si (j := 8) (by decide)).si (j := 10) (by decide)).si (j := 6) (by decide)).si (j := 7) (by decide)).wk (fun _ z => z) (fun _ z => z) (fun _ _ z => z) (by omega) (by omega)
        · -- 213
          refine mw_go mu_g51 (k := 2) (f1 := (217, [(0, .inr (.inr (some 169)))], [], (mu_si (mu_si (mu_si (mu_si H 169 8 (nI p)) 169 10 (nuz T n (n + 1) 0 p).1) 169 6 (nI (nuz T n (n + 1) 0 p).2)) 169 7 (3 : Int32)))) (C := [mu_is H (some 169) 1]) rfl (show mu_is H (some 169) 1 from h.is) ?_
          refine mw_of (fun _ => mu_ret rfl trivial ⟨_, rfl, h, ht, ?_, ?_⟩)
          · rw [show tkp T n p = (3, p, (nuz T n (n + 1) 0 p).2) from (if_neg hpn).trans ((if_pos h2).trans ((if_neg h3).trans (by rw [if_neg h4])))]
            exact ⟨rfl, rfl, rfl, (fun _ => rfl), (fun z => absurd (show (3 : Int32) = 2 from z) (by decide))⟩
          · exact ((((rfr.rf.si (j := 8) (by decide)).si (j := 10) (by decide)).si (j := 6) (by decide)).si (j := 7) (by decide)).wk (fun _ z => z) (fun _ z => z) (fun _ _ z => z) (by omega) (by omega)
    · -- 40
      refine mw_fr (f' := (40, [(0, .inr (.inr (some 169)))], [], (mu_si (mu_si H 169 8 (nI p)) 169 6 (nI p)))) (by rw [mu_si_comm _ _ _ _ (show 6 ≠ 8 by decide)]) ?_
      refine rf_word0 (H := mu_si H 169 8 (nI p)) (T := T) (n := n) h ht (n + 1) p (by omega) hs.2 ?_
      have hwe := wez_le (T := T) (n := n) (n + 1) p hs.2
      have hwa := wez_asc (T := T) (n := n) (n + 1) p
      have etk : tkp T n p = (2, p, wez T n (n + 1) p) := (if_neg hpn).trans (if_neg h2)
      rw [etk] at hz ⊢
      have hz : mu_z H + (wez T n (n + 1) p - p) + 20 ≤ 1000000 := hz
      generalize wez T n (n + 1) p = e at hwe hwa hz etk ⊢
      refine mw_go mu_g51 (k := 3) (f1 := (80, [(0, .inr (.inr (some 169)))], [], (mu_si (mu_si (mu_si H 169 8 (nI p)) 169 6 (nI e)) 169 7 (2 : Int32)))) (C := [mu_is H (some 169) 1]) rfl (show mu_is H (some 169) 1 from h.is) ?_
      have r0 : rfr [6, 7, 8, 10] [11] (fun _ => False) 0 0 H (mu_si (mu_si (mu_si H 169 8 (nI p)) 169 6 (nI e)) 169 7 (2 : Int32)) := ((rfr.rf.si (j := 8) (by decide)).si (j := 6) (by decide)).si (j := 7) (by decide)
      have g0 : rgd (mu_si (mu_si (mu_si H 169 8 (nI p)) 169 6 (nI e)) 169 7 (2 : Int32)) := h
      have t0 : rtp (mu_si (mu_si (mu_si H 169 8 (nI p)) 169 6 (nI e)) 169 7 (2 : Int32)) T n := ht
      have f6 : mu_i (mu_si (mu_si (mu_si H 169 8 (nI p)) 169 6 (nI e)) 169 7 (2 : Int32)) 169 6 = nI e := rfl
      have f7 : mu_i (mu_si (mu_si (mu_si H 169 8 (nI p)) 169 6 (nI e)) 169 7 (2 : Int32)) 169 7 = 2 := rfl
      have f8 : mu_i (mu_si (mu_si (mu_si H 169 8 (nI p)) 169 6 (nI e)) 169 7 (2 : Int32)) 169 8 = nI p := rfl
      have z0 : mu_z (mu_si (mu_si (mu_si H 169 8 (nI p)) 169 6 (nI e)) 169 7 (2 : Int32)) = mu_z H := rfl
      generalize (mu_si (mu_si (mu_si H 169 8 (nI p)) 169 6 (nI e)) 169 7 (2 : Int32)) = H0 at r0 g0 t0 f6 f7 f8 z0 ⊢
      refine mw_newo rfl (by decide) (by omega) ?_
      show mu_W _ mu_m51 (83, [(0, .inr (.inr (some 169)))], [.inr (.inr (some (mu_z H0)))], (mu_nw H0 20 0 4)) _
      have hnz : mu_z (mu_nw H0 20 0 4) = mu_z H0 + 1 := rfl
      obtain ⟨i1, i2, i3⟩ := bl_init0 (H := mu_nw H0 20 0 4) (q := mu_z H0) (mu_is_new H0 20 0 4) (if_pos rfl) (by omega)
      refine mw_go mu_g51 (k := 1) (f1 := (84, [(0, .inr (.inr (some 169)))], [.inr (.inr (some (mu_z H0))), .inr (.inr (some (mu_z H0)))], (mu_nw H0 20 0 4))) (C := []) rfl trivial ?_
      refine mw_cVe (fun _ => rfl) ⟨rfl, Nat.lt_succ_self _⟩ (bl_init (mu_is_new H0 20 0 4) (by omega)) ?_
      have k0 : kep (fun _ => False) (0 + 1) (0 + 4) H0 (mu_nw H0 20 0 4) := kep.rf.nw (by omega)
      have k1 : kep (fun _ => False) (1 + 1) (4 + 16) H0 (mu_si (mu_sr (mu_nw (mu_nw H0 20 0 4) 101 16 16) (mu_z H0) 0 (some (mu_z (mu_nw H0 20 0 4)))) (mu_z H0) 1 0) := (k0.tr i3 (W := fun _ => False) (fun x hx z => z.elim id (fun e => by omega))).wk (fun _ _ z => z) (by omega) (by omega)
      have g200 : 200 < mu_z H0 := g0.1
      have r1 : rfr [] [] (fun _ => False) (1 + 1) (4 + 16) H0 (mu_si (mu_sr (mu_nw (mu_nw H0 20 0 4) 101 16 16) (mu_z H0) 0 (some (mu_z (mu_nw H0 20 0 4)))) (mu_z H0) 1 0) := rfr.of k1 (by omega) id
      have hI : blp T n p e p (mu_z H0) H0 (mu_si (mu_sr (mu_nw (mu_nw H0 20 0 4) 101 16 16) (mu_z H0) 0 (some (mu_z (mu_nw H0 20 0 4)))) (mu_z H0) 1 0) := ⟨mu_z (mu_nw H0 20 0 4), 1, 16, g0.keep r1 (fun _ z => by cases z) (fun _ z => z.elim), t0.keep g0 r1 (by simp) id, (r1.2.1 6 (by simp)).trans f6, by rw [slc_nil]; exact i1, Nat.le_refl _, by omega, r1, by rw [i2]; decide, by rw [i2]; decide, by rw [i2]; omega⟩
      have f8' : mu_i (mu_si (mu_sr (mu_nw (mu_nw H0 20 0 4) 101 16 16) (mu_z H0) 0 (some (mu_z (mu_nw H0 20 0 4)))) (mu_z H0) 1 0) 169 8 = nI p := (r1.2.1 8 (by simp)).trans f8
      have iN : mu_is (mu_si (mu_sr (mu_nw (mu_nw H0 20 0 4) 101 16 16) (mu_z H0) 0 (some (mu_z (mu_nw H0 20 0 4)))) (mu_z H0) 1 0) (some 169) 1 := (g0.keep r1 (fun _ z => by cases z) (fun _ z => z.elim)).is
      generalize (mu_si (mu_sr (mu_nw (mu_nw H0 20 0 4) 101 16 16) (mu_z H0) 0 (some (mu_z (mu_nw H0 20 0 4)))) (mu_z H0) 1 0) = HN at hI f8' iN ⊢
      refine mw_go mu_g51 (k := 4) (f1 := (93, [(2, .inl (mu_i HN 169 8)), (1, .inr (.inr (some (mu_z H0)))), (0, .inr (.inr (some 169)))], [], HN)) (C := [mu_is HN (some 169) 1]) rfl (show mu_is HN (some 169) 1 from iN) ?_
      refine mw_fr (f' := (93, [(2, .inl (nI p)), (1, .inr (.inr (some (mu_z H0)))), (0, .inr (.inr (some 169)))], [], HN)) (by first | (rw [f8']; done) | (rw [f8']; rfl)) ?_
      refine mw_sub (L' := [(2, .inl (nI p)), (1, .inr (.inr (some (mu_z H0)))), (0, .inr (.inr (some 169)))]) (by simp) ?_
      refine rf_bld0 (d := d) g200 (by omega) hwe.2 (fun j hj1 hj2 => hwa j hj1 hj2) (e - p) p HN (Nat.le_refl _) (by omega) hI (fun H1 hI1 => ?_)
      obtain ⟨a1, c1, s1, u1, u2, u3, u4, u5, u6, u7, u8, u9, u10⟩ := hI1
      have uz : mu_z H1 ≤ mu_z H0 + (1 + c1) := u7.1.2.2.1.1
      refine mw_go mu_g51 (k := 2) (f1 := (121, [(1, .inr (.inr (some (mu_z H0)))), (0, .inr (.inr (some 169)))], [.inr (.inr (some (mu_z H0))), .inr (.inr (some 169))], H1)) (C := []) rfl trivial ?_
      refine mw_cA (fun _ => rfl) (show mu_is H1 (some (mu_z H0)) 20 from u4.iq) (bl_toString u4 (by omega) (by omega)) (fun x1 H2 hq => ?_)
      obtain ⟨rfl, v1, v2, v3⟩ := hq
      rw [slc_len] at v3
      have uz2 : mu_z H0 ≤ mu_z H1 := u7.1.1
      have r2 : rfr [] [] (fun _ => False) 2 (4 + (e - p)) H1 H2 := rfr.of v3 (Nat.lt_trans (by decide) u1.1) id
      have g2 : rgd H2 := u1.keep r2 (fun _ z => by cases z) (fun _ z => z.elim)
      have t2 : rtp H2 T n := u2.keep u1 r2 (by simp) id
      have r02 := ((r0.tr u7 (Fi := [6, 7, 8, 10]) (Fr := [11]) (W := fun _ => False) (by simp) (by simp) (fun _ _ z => z.elim id id)).tr r2 (Fi := [6, 7, 8, 10]) (Fr := [11]) (W := fun _ => False) (by simp) (by simp) (fun _ _ z => z.elim id id)).sr (j := 11) (x := some (mu_z H1)) (by decide)
      show mu_W _ mu_m51 (124, [(1, .inr (.inr (some (mu_z H0)))), (0, .inr (.inr (some 169)))], [.inr (.inr (some (mu_z H1))), .inr (.inr (some 169))], H2) _
      refine mw_go mu_g51 (k := 1) (f1 := (127, [(1, .inr (.inr (some (mu_z H0)))), (0, .inr (.inr (some 169)))], [], (mu_sr H2 169 11 (some (mu_z H1))))) (C := [mu_is H2 (some 169) 1]) rfl (show mu_is H2 (some 169) 1 from g2.is) ?_
      refine mw_of (fun _ => mu_ret rfl trivial ⟨_, rfl, g2.keep (H1 := mu_sr H2 169 11 (some (mu_z H1))) (rfr.rf (Fi := []) (Fr := [11]) (W := fun _ => False) |>.sr (by decide)) (by decide) (fun _ z => z.elim), t2, ⟨?_, ?_, ?_, fun z => absurd (show (2 : Int32) = 3 from z) (by decide), fun _ => ⟨mu_z H1, (show mu_r (mu_sr H2 169 11 (some (mu_z H1))) 169 11 = some (mu_z H1) from by simp [mu_r, mu_sr]), by omega, by omega, ?_, ?_, ?_⟩⟩, ?_⟩)
      · exact ((r2.2.1 7 (by simp)).trans (u7.2.1 7 (by simp))).trans f7
      · exact ((r2.2.1 8 (by simp)).trans (u7.2.1 8 (by simp))).trans f8
      · exact ((r2.2.1 6 (by simp)).trans (u7.2.1 6 (by simp))).trans f6
      · rw [sbv_sr (by omega), v2]
        show mu_z H ≤ mu_z H1 + 1
        omega
      · rw [sbv_sr (by omega), v2]
        show mu_z H1 + 1 < 1000000
        omega
      · exact (kep.rf (W := fun x => x = 169) |>.sr (j := 11) (x := some (mu_z H1)) (Or.inl rfl)).sb v1 (fun z => by have z : mu_z H1 = 169 := z; omega) (fun z => by rw [v2] at z; have z : mu_z H1 + 1 = 169 := z; omega)
      · exact r02.wk (fun _ z => z) (fun _ z => z) (fun _ _ z => z) (by show 0 + (1 + c1) + 2 ≤ e - a + 4; omega) (by show 0 + (4 + s1) + (4 + (e - p)) ≤ 5 * (e - a) + 40; omega)
