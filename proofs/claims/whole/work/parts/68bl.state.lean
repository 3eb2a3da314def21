/-! The reference's parser: its state, what it keeps, what a token is -/
section Rules
variable {run : Nat → List ev_V → List ev_C → Option ev_R} {M : ev_M}
/-- a virtual call that returns or throws; nothing is caught here -/
theorem mw_cx {pc idx j na ci : Nat} {rest : List Nat} {L : mu_L} {S as S1 : List mu_V} {o : Option Nat} {H : mu_H} {Φ Ψ : mu_R → Prop} (hf : ev_find M.2.2.2 pc = some (.invokevirtual idx, j :: na :: ci :: rest)) (hS : S.take na = as.reverse) (hS2 : S.drop na = .inr (.inr o) :: S1) (hn : as.length = na) (hw : mu_wds S1 ≤ 8) (hci : ci < 100) (ho : mu_is H o ci) (hh : M.2.2.1 = []) (hT : mu_MT run j (.inr (.inr o) :: as) H Ψ) (hx : ∀ x H1, Ψ (.inr x, H1) → x < 4 ∧ Φ (.inr x, H1)) (hk : ∀ v H1, Ψ (.inl v, H1) → mu_W run M (pc + 3, L, v.toList ++ S1, H1) Φ) : mu_W run M (pc, L, S, H) Φ :=
  fun L0 hs => mu_callx hf hS hS2 hn hw hci ho hT (fun v H1 q => hk v H1 q L0 hs) (fun x H1 q => Or.inr ⟨hh, (hx x H1 q).1, (hx x H1 q).2⟩)
/-- String.equals of any String -/
theorem mw_cS {pc idx : Nat} {rest : List Nat} {L : mu_L} {S1 : List mu_V} {o o2 : Option Nat} {H : mu_H} {Φ : mu_R → Prop} {Q : Int32 → mu_H → Prop} (hf : ev_find M.2.2.2 pc = some (.invokevirtual idx, 113 :: 1 :: 999 :: rest)) (hw : mu_wds S1 ≤ 8) (ho : mu_sg H o) (hT : mu_TI run 113 [.inr (.inr o), .inr (.inr o2)] H Q) (hk : ∀ x H1, Q x H1 → mu_W run M (pc + 3, L, .inl x :: S1, H1) Φ) : mu_W run M (pc, L, .inr (.inr o2) :: .inr (.inr o) :: S1, H) Φ := by
  intro L0 hs
  rcases ho with ho | ho
  · refine mu_cI (f := (pc, L0, .inr (.inr o2) :: .inr (.inr o) :: S1, H)) (pc1 := pc + 3) (L := L0) (S1 := S1) (H := H) (C := [mu_str o]) ?_ ho hT (fun x H1 q => hk x H1 q L0 hs)
    unfold mu_clf
    rw [show ev_find M.2.2.2 (pc, L0, .inr (.inr o2) :: .inr (.inr o) :: S1, H).1 = _ from hf]
    show (bif Nat.beq 1 1 && Nat.ble (mu_wds S1) 8 && (Nat.blt 999 100 || Nat.beq 999 999) then _ else none) = _
    rw [Nat.ble_eq_true_of_le hw]
    rfl
  · refine mu_callS hf (as := [.inr (.inr o2)]) rfl rfl rfl hw ho hT (fun r q => ?_)
    obtain ⟨x, H1, e, q⟩ := q
    subst e
    exact ⟨_, rfl, hk x H1 q L0 hs⟩
end Rules
/-- a constant's letters -/
def txt (j : Nat) : List Int32 := ev_kb.getD j []
theorem txt_len : ∀ j, j < 79 → (txt j).length < 256 := by decide +kernel
/-- what is left to be read, as cells -/
def pot (n : Nat) (t : Int32 × Nat × Nat) : Nat := 20 * (n - t.2.2) + (if t.1 = 0 ∨ t.1 = 1 then 0 else 20)
/-- what a token can be -/
def tkf (n : Nat) (t : Int32 × Nat × Nat) : Prop := (t.1 = 0 ∨ t.1 = 1 ∨ t.1 = 2 ∨ t.1 = 3 ∨ ∃ s, s < 27 ∧ t.1 = nI (10 + s)) ∧ t.2.1 ≤ t.2.2 ∧ t.2.2 ≤ n
/-- a word begins with a letter -/
def tkw (T : Nat → Int32) (t : Int32 × Nat × Nat) : Prop := t.1 = 2 → t.2.1 < t.2.2 ∧ ¬ ltz (T t.2.1) = 0
/-- the token is there -/
def tkn (T : Nat → Int32) (n : Nat) (t : Int32 × Nat × Nat) (F : Nat → Prop) (H : mu_H) : Prop := (mu_i H 169 7 = t.1 ∧ mu_i H 169 8 = nI t.2.1 ∧ mu_i H 169 6 = nI t.2.2) ∧ (t.1 = 3 → mu_i H 169 10 = (nuz T n (n + 1) 0 t.2.1).1) ∧ (t.1 = 2 → ∃ q b, mu_r H 169 11 = some q ∧ F q ∧ sbv H (some q) = some b ∧ F b ∧ sb H (some q) (slc T t.2.1 t.2.2)) ∧ tkf n t ∧ tkw T t
/-- the rows of names that a path is gathered in -/
def pnr (H : mu_H) : Prop := ∃ p, mu_r H 169 13 = some p ∧ (p < mu_z H ∧ p < 1000000) ∧ p ∉ [169, 170, 171, 172, 183, 184, 185, 186, 187, 188, 189, 190, 191, 195, 199] ∧ mu_k H p = 103 ∧ 16 ≤ mu_n H p ∧ mu_n H p ≤ 131072
/-- the parser's state: the token t, depth dep; the cells of F are done -/
def pst (T : Nat → Int32) (n : Nat) (t : Int32 × Nat × Nat) (dep : Nat) (F : Nat → Prop) (H : mu_H) : Prop := rgd H ∧ rtp H T n ∧ tkn T n t F H ∧ (mu_i H 169 12 = nI dep ∧ dep ≤ 150) ∧ (∀ p, F p → 200 < p ∧ (p < mu_z H ∧ p < 1000000) ∧ mu_r H 169 13 ≠ some p) ∧ pnr H
/-- what the parser keeps: at most a cells are made -/
def pfr (a : Nat) (F F1 : Nat → Prop) (H H1 : mu_H) : Prop := rfr [6, 7, 8, 10, 12] [11, 13] (fun p => mu_r H 169 13 = some p) a (10 * a) H H1 ∧ (mu_r H1 169 13 = mu_r H 169 13 ∨ ∃ p, mu_r H1 169 13 = some p ∧ mu_z H ≤ p ∧ p < 1000000) ∧ (∀ p, F p → F1 p) ∧ (∀ p, F1 p → F p ∨ mu_z H ≤ p)
section Pfr
variable {a a' a1 a2 n dep : Nat} {F F1 F2 : Nat → Prop} {H H1 H2 : mu_H} {T : Nat → Int32} {t t1 t2 : Int32 × Nat × Nat}
theorem pfr.rf : pfr 0 F F H H := ⟨rfr.rf, Or.inl rfl, fun _ z => z, fun _ z => Or.inl z⟩
theorem pfr.z (h : pfr a F F1 H H1) : mu_z H ≤ mu_z H1 ∧ mu_z H1 ≤ mu_z H + a := ⟨h.1.1.1, h.1.1.2.2.1.1⟩
theorem pfr.wk (h : pfr a F F1 H H1) (ha : a ≤ a') : pfr a' F F1 H H1 := ⟨h.1.wk (fun _ z => z) (fun _ z => z) (fun _ _ z => z) ha (by omega), h.2⟩
theorem pfr.tr (h1 : pfr a1 F F1 H H1) (h2 : pfr a2 F1 F2 H1 H2) : pfr (a1 + a2) F F2 H H2 := by
  obtain ⟨x1, x2, x3, x4⟩ := h1
  obtain ⟨y1, y2, y3, y4⟩ := h2
  have hz : mu_z H ≤ mu_z H1 := x1.1.1
  refine ⟨(x1.tr y1 (Fi := [6, 7, 8, 10, 12]) (Fr := [11, 13]) (W := fun p => mu_r H 169 13 = some p) (fun _ z => z.elim id id) (fun _ z => z.elim id id) (fun p hp z => ?_)).wk (fun _ z => z) (fun _ z => z) (fun _ _ z => z) (Nat.le_refl _) (by omega), ?_, fun p z => y3 p (x3 p z), fun p z => ?_⟩
  · rcases z with z | z
    · exact z
    · rcases x2 with e | ⟨q, e, hq⟩
      · rw [e] at z; exact z
      · have e2 : some q = some p := e.symm.trans z
        cases e2
        omega
  · rcases y2 with e | ⟨q, e, hq⟩
    · rw [e]; exact x2
    · exact Or.inr ⟨q, e, by omega, hq.2⟩
  · rcases y4 p z with z | z
    · exact x4 p z
    · exact Or.inr (by omega)
/-- a cell that is done stays -/
theorem pfr.same {p : Nat} (h : pfr a F F1 H H1) (h2 : 200 < p ∧ (p < mu_z H ∧ p < 1000000) ∧ mu_r H 169 13 ≠ some p) : mu_same H H1 p := h.1.1.2.1 p (Or.inl h2.2.1.1) (fun z => z.elim (by omega) h2.2.2)
theorem pst.is (h : pst T n t dep F H) : mu_is H (some 169) 1 := h.1.is
theorem pst.fz (h : pst T n t dep F H) : ∀ p, F p → 200 < p ∧ (p < mu_z H ∧ p < 1000000) ∧ mu_r H 169 13 ≠ some p := h.2.2.2.2.1
theorem pst.f7 (h : pst T n t dep F H) : mu_i H 169 7 = t.1 := h.2.2.1.1.1
theorem pst.f12 (h : pst T n t dep F H) : mu_i H 169 12 = nI dep := h.2.2.2.1.1
theorem pst.tkf (h : pst T n t dep F H) : tkf n t := h.2.2.1.2.2.2.1
theorem pst.tkw (h : pst T n t dep F H) : tkw T t := h.2.2.1.2.2.2.2
theorem pst.wd (h : pst T n t dep F H) (e : t.1 = 2) : ∃ q b, mu_r H 169 11 = some q ∧ F q ∧ sbv H (some q) = some b ∧ F b ∧ sb H (some q) (slc T t.2.1 t.2.2) := h.2.2.1.2.2.1 e
theorem pst.nn (h : pst T n t dep F H) : n ≤ 65536 := h.2.1.2.1
end Pfr
theorem sgt_pos : ∀ s, s < 27 → 0 < (sgt s).length := fun s h => (sgt_len s h).1
theorem wez_gt {T : Nat → Int32} {n f a : Nat} (ha : a ≤ n) (h : ¬ ltz (lta T n a) = 0) : a < wez T n (f + 1) a := by
  rw [wez, if_neg h]
  have h1 := lta_in (Or.inl h)
  have := wez_le (T := T) (n := n) f (a + 1) (by omega)
  omega
theorem nuz_gt {T : Nat → Int32} {n f a : Nat} {v : Int32} (ha : a ≤ n) (h : ¬ dgz (lta T n a) = 0) : a < (nuz T n (f + 1) v a).2 := by
  rw [nuz, if_neg h]
  have h1 := lta_in (Or.inr h)
  have := nuz_le (T := T) (n := n) f (mu_min 40000 (10 * v + T a - 48)) (a + 1) (by omega)
  omega
/-- a token's kinds and ends; what is neither the end nor nothing takes letters -/
theorem tkz_f {T : Nat → Int32} {n a : Nat} (h : a ≤ n) : tkf n (tkz T n a) ∧ a ≤ (tkz T n a).2.2 ∧ ((tkz T n a).1 = 0 ∨ (tkz T n a).1 = 1 ∨ a < (tkz T n a).2.2) := by
  have hl := tkz_le (T := T) h
  refine ⟨⟨?_, hl.2⟩, Nat.le_trans hl.1 hl.2.1, ?_⟩
  all_goals
    unfold tkz
    have hs := skz_le (T := T) (n := n) (n + 1) a h
    generalize skz T n (n + 1) a = p at hs
    unfold tkp
    by_cases e1 : p = n
    · rw [if_pos e1]; exact Or.inl rfl
    · rw [if_neg e1]
      by_cases e2 : ltz (lta T n p) = 0
      · rw [if_pos e2]
        by_cases e3 : dgz (lta T n p) = 0
        · rw [if_pos e3]
          by_cases e4 : fsz T n p 27 0 < 27
          · rw [if_pos e4]
            first
              | exact Or.inr (Or.inr (Or.inr (Or.inr ⟨_, e4, rfl⟩)))
              | (refine Or.inr (Or.inr ?_)
                 have := sgt_pos _ e4
                 show a < p + (sgt (fsz T n p 27 0)).length
                 omega)
          · rw [if_neg e4]; exact Or.inr (Or.inl rfl)
        · rw [if_neg e3]
          have h2 := nuz_gt (f := n) (v := 0) hs.2 e3
          by_cases e4 : 32767 < (nuz T n (n + 1) 0 p).1
          · rw [if_pos e4]; exact Or.inr (Or.inl rfl)
          · rw [if_neg e4]
            first
              | exact Or.inr (Or.inr (Or.inr (Or.inl rfl)))
              | (refine Or.inr (Or.inr ?_)
                 show a < (nuz T n (n + 1) 0 p).2
                 omega)
      · rw [if_neg e2]
        have h2 := wez_gt (f := n) hs.2 e2
        first
          | exact Or.inr (Or.inr (Or.inl rfl))
          | (refine Or.inr (Or.inr ?_)
             show a < wez T n (n + 1) p
             omega)
/-- a token that is passed pays for what is made -/
theorem pot_step {T : Nat → Int32} {n : Nat} {t : Int32 × Nat × Nat} (h : t.2.2 ≤ n) (h2 : t.1 ≠ 0 ∧ t.1 ≠ 1) : pot n (tkz T n t.2.2) + ((tkz T n t.2.2).2.2 - t.2.2 + 4) + 15 ≤ pot n t := by
  obtain ⟨⟨_, _, g1⟩, g2, g3⟩ := tkz_f (T := T) h
  unfold pot
  rw [if_neg (show ¬ (t.1 = 0 ∨ t.1 = 1) from fun z => z.elim h2.1 h2.2)]
  by_cases e : (tkz T n t.2.2).1 = 0 ∨ (tkz T n t.2.2).1 = 1
  · rw [if_pos e]; omega
  · rw [if_neg e]
    have g4 : t.2.2 < (tkz T n t.2.2).2.2 := by
      rcases g3 with g3 | g3 | g3
      · exact absurd (Or.inl g3) e
      · exact absurd (Or.inr g3) e
      · exact g3
    omega
theorem pot_le {n : Nat} {t : Int32 × Nat × Nat} : 20 * (n - t.2.2) ≤ pot n t := by unfold pot; omega
theorem tkz_w {T : Nat → Int32} {n a : Nat} (h : a ≤ n) : tkw T (tkz T n a) := by
  unfold tkz
  have hs := skz_le (T := T) (n := n) (n + 1) a h
  generalize skz T n (n + 1) a = p at hs
  unfold tkp tkw
  by_cases e1 : p = n
  · rw [if_pos e1]; exact fun z => absurd (show (0 : Int32) = 2 from z) (by decide)
  · rw [if_neg e1]
    by_cases e2 : ltz (lta T n p) = 0
    · rw [if_pos e2]
      by_cases e3 : dgz (lta T n p) = 0
      · rw [if_pos e3]
        by_cases e4 : fsz T n p 27 0 < 27
        · rw [if_pos e4]; exact fun z => absurd (rI_inj (b := 2) (by omega) (by decide) z) (by omega)
        · rw [if_neg e4]; exact fun z => absurd (show (1 : Int32) = 2 from z) (by decide)
      · rw [if_neg e3]
        by_cases e4 : 32767 < (nuz T n (n + 1) 0 p).1
        · rw [if_pos e4]; exact fun z => absurd (show (1 : Int32) = 2 from z) (by decide)
        · rw [if_neg e4]; exact fun z => absurd (show (3 : Int32) = 2 from z) (by decide)
    · rw [if_neg e2]
      intro _
      have h2 := wez_gt (f := n) hs.2 e2
      have h3 := lta_in (Or.inl e2)
      refine ⟨h2, ?_⟩
      show ¬ ltz (T p) = 0
      rw [show lta T n p = T p from if_pos h3] at e2
      exact e2
/-- the row of names is as it was -/
def kpn (H H1 : mu_H) : Prop := mu_r H1 169 13 = mu_r H 169 13 ∧ ∀ p, mu_r H 169 13 = some p → mu_same H H1 p
/-- advance, in the parser -/
theorem rp_adv2 {d n dep : Nat} {T : Nat → Int32} {t : Int32 × Nat × Nat} {F : Nat → Prop} {H : mu_H} (h : pst T n t dep F H) (h2 : t.1 ≠ 0 ∧ t.1 ≠ 1) (hz : mu_z H + pot n t + 20 ≤ 1000000) : mu_TV (mu_D (d + 7)) 51 [.inr (.inr (some 169))] H (fun H1 => (∃ F1, pst T n (tkz T n t.2.2) dep F1 H1 ∧ pfr ((tkz T n t.2.2).2.2 - t.2.2 + 4) F F1 H H1) ∧ kpn H H1) := by
  obtain ⟨g1, g2, ⟨⟨k1, k2, k3⟩, k4, k5, k6⟩, g4, g5, p, p1, ⟨p2, p2'⟩, p3, p4, p5⟩ := h
  have hp := pot_step (T := T) k6.1.2.2 h2
  have hf := tkz_f (T := T) k6.1.2.2
  refine (rf_advance g1 g2 k3 k6.1.2.2 ?_).imp (fun H1 q => ?_)
  · have := (tkz_le (T := T) k6.1.2.2).1
    omega
  · obtain ⟨q1, q2, ⟨a1, a2, a3, a4, a5⟩, q4⟩ := q
    have e13 : mu_r H1 169 13 = mu_r H 169 13 := q4.2.2.1 13 (by decide)
    have hz1 : mu_z H ≤ mu_z H1 := q4.1.1
    have hw : pfr ((tkz T n t.2.2).2.2 - t.2.2 + 4) F F H H1 := ⟨q4.wk (by simp) (by simp) (fun _ _ z => z.elim) (Nat.le_refl _) (by omega), Or.inl e13, fun _ z => z, fun _ z => Or.inl z⟩
    have hpn : pnr H1 := by
      have sm : mu_same H H1 p := q4.1.2.1 p (Or.inl p2) (fun z => z.elim (fun e => p3 (by rw [e]; decide)) id)
      exact ⟨p, e13.trans p1, ⟨by omega, p2'⟩, p3, sm.1.trans p4, by rw [sm.2.1]; exact p5⟩
    have h12 : mu_i H1 169 12 = nI dep := (q4.2.1 12 (by decide)).trans g4.1
    refine ⟨?_, e13, fun p' hp' => by rw [p1] at hp'; cases hp'; exact q4.1.2.1 p (Or.inl p2) (fun z => z.elim (fun e => p3 (by rw [e]; decide)) id)⟩
    by_cases e2 : (tkz T n t.2.2).1 = 2
    · obtain ⟨q, b1, b2, b3, b4, b5, b6⟩ := a5 e2
      have hsv : sbv H1 (some q) = some (mu_p (sbv H1 (some q))) := b6.2.2.1.1
      have hq1 : q < mu_z H1 := by
        rcases b6.1 with z | z
        · have z := z.2.1
          exact absurd (show 1000000 ≤ q from z) (by omega)
        · exact z.2.1
      have hb1 : mu_p (sbv H1 (some q)) < mu_z H1 := by
        rcases b6.2.2.1.2.1 with z | z
        · exact z
        · omega
      refine ⟨fun x => F x ∨ x = q ∨ x = mu_p (sbv H1 (some q)), ⟨q1, q2, ⟨⟨a1, a2, a3⟩, a4, fun _ => ⟨q, _, b1, Or.inr (Or.inl rfl), hsv, Or.inr (Or.inr rfl), b6⟩, ⟨hf.1, tkz_w k6.1.2.2⟩⟩, ⟨h12, g4.2⟩, ?_, hpn⟩, hw.1, hw.2.1, fun _ z => Or.inl z, ?_⟩
      · intro x hx
        rw [e13, p1]
        have g200 := g1.1
        rcases hx with hx | hx | hx
        · have := g5 x hx
          rw [p1] at this
          exact ⟨this.1, ⟨by omega, this.2.1.2⟩, this.2.2⟩
        · subst hx
          exact ⟨by omega, ⟨hq1, b3⟩, fun z => by cases z; omega⟩
        · subst hx
          refine ⟨by omega, ⟨hb1, b5⟩, fun z => ?_⟩
          have z : p = mu_p (sbv H1 (some q)) := Option.some.inj z
          omega
      · intro x hx
        rcases hx with hx | hx | hx
        · exact Or.inl hx
        · exact Or.inr (by omega)
        · exact Or.inr (by omega)
    · refine ⟨F, ⟨q1, q2, ⟨⟨a1, a2, a3⟩, a4, fun z => absurd z e2, ⟨hf.1, tkz_w k6.1.2.2⟩⟩, ⟨h12, g4.2⟩, ?_, hpn⟩, hw⟩
      intro x hx
      rw [e13]
      exact ⟨(g5 x hx).1, ⟨by have := (g5 x hx).2.1.1; omega, (g5 x hx).2.1.2⟩, (g5 x hx).2.2⟩
theorem rp_advance {d n dep : Nat} {T : Nat → Int32} {t : Int32 × Nat × Nat} {F : Nat → Prop} {H : mu_H} (h : pst T n t dep F H) (h2 : t.1 ≠ 0 ∧ t.1 ≠ 1) (hz : mu_z H + pot n t + 20 ≤ 1000000) : mu_TV (mu_D (d + 7)) 51 [.inr (.inr (some 169))] H (fun H1 => ∃ F1, pst T n (tkz T n t.2.2) dep F1 H1 ∧ pfr ((tkz T n t.2.2).2.2 - t.2.2 + 4) F F1 H H1) := (rp_adv2 (d := d) h h2 hz).imp (fun _ q => q.1)
