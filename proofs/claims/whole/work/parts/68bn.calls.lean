/-! The reference: can, nest, expect, name; what a call does that may throw -/
/-- a call that throws an IllegalArgumentException or returns -/
def mu_TX (run : Nat → List ev_V → List ev_C → Option ev_R) (j : Nat) (as : List mu_V) (H : mu_H) (E : mu_H → Prop) (Q : Option mu_V → mu_H → Prop) : Prop := mu_MT run j as H (fun r => (∃ H1, r = (.inr 0, H1) ∧ E H1) ∨ ∃ v H1, r = (.inl v, H1) ∧ Q v H1)
theorem mw_cX {run : Nat → List ev_V → List ev_C → Option ev_R} {M : ev_M} {pc idx j na ci : Nat} {rest : List Nat} {L : mu_L} {S as S1 : List mu_V} {o : Option Nat} {H : mu_H} {Φ : mu_R → Prop} {E : mu_H → Prop} {Q : Option mu_V → mu_H → Prop} (hf : ev_find M.2.2.2 pc = some (.invokevirtual idx, j :: na :: ci :: rest)) (hS : S.take na = as.reverse) (hS2 : S.drop na = .inr (.inr o) :: S1) (hn : as.length = na) (hw : mu_wds S1 ≤ 8) (hci : ci < 100) (ho : mu_is H o ci) (hh : M.2.2.1 = []) (hT : mu_TX run j (.inr (.inr o) :: as) H E Q) (hE : ∀ H1, E H1 → Φ (.inr 0, H1)) (hk : ∀ v H1, Q v H1 → mu_W run M (pc + 3, L, v.toList ++ S1, H1) Φ) : mu_W run M (pc, L, S, H) Φ := by
  refine mw_cx hf hS hS2 hn hw hci ho hh hT (fun x H1 q => ?_) (fun v H1 q => ?_)
  · rcases q with ⟨H2, e, q⟩ | ⟨v, H2, e, q⟩
    · cases e; exact ⟨by decide, hE _ q⟩
    · cases e
  · rcases q with ⟨H2, e, q⟩ | ⟨v, H2, e, q⟩
    · cases e
    · cases e; exact hk _ _ q
/-- the text is refused at e; at most a cells were made -/
def pbd (T : Nat → Int32) (n e a : Nat) (H H1 : mu_H) : Prop := rgd H1 ∧ rtp H1 T n ∧ mu_i H1 169 8 = nI e ∧ rfr [6, 7, 8, 10, 12] [11, 13] (fun p => mu_r H 169 13 = some p) a (10 * a) H H1
theorem pst.bad {n dep : Nat} {T : Nat → Int32} {t : Int32 × Nat × Nat} {F : Nat → Prop} {H : mu_H} (h : pst T n t dep F H) : pbd T n t.2.1 1 H (mu_ex H) := by
  refine ⟨h.1, h.2.1, h.2.2.1.1.2.1, ?_⟩
  exact ⟨(kep.rf.exc).wk (fun _ _ z => z) (by omega) (by omega), fun _ _ => rfl, fun _ _ => rfl, rfl⟩
theorem pbd.wk {T : Nat → Int32} {n e a a' : Nat} {H H1 : mu_H} (h : pbd T n e a H H1) (ha : a ≤ a') : pbd T n e a' H H1 := ⟨h.1, h.2.1, h.2.2.1, h.2.2.2.wk (fun _ z => z) (fun _ z => z) (fun _ _ z => z) ha (by omega)⟩
theorem pfr.rtr {a b c : Nat} {F F1 : Nat → Prop} {H H1 H2 : mu_H} (h : pfr a F F1 H H1) (h2 : rfr [6, 7, 8, 10, 12] [11, 13] (fun p => mu_r H1 169 13 = some p) b c H1 H2) : rfr [6, 7, 8, 10, 12] [11, 13] (fun p => mu_r H 169 13 = some p) (a + b) (10 * a + c) H H2 := by
  obtain ⟨x1, x2, x3, x4⟩ := h
  have hz : mu_z H ≤ mu_z H1 := x1.1.1
  refine x1.tr h2 (fun _ z => z.elim id id) (fun _ z => z.elim id id) (fun p hp z => ?_)
  rcases z with z | z
  · exact z
  · rcases x2 with e | ⟨q, e, hq⟩
    · rw [e] at z; exact z
    · have e2 : some q = some p := e.symm.trans z
      cases e2
      omega
theorem pfr.bd {T : Nat → Int32} {n e a a2 : Nat} {F F1 : Nat → Prop} {H H1 H2 : mu_H} (h : pfr a F F1 H H1) (h2 : pbd T n e a2 H1 H2) : pbd T n e (a + a2) H H2 := by
  obtain ⟨g1, g2, g3, g4⟩ := h2
  exact ⟨g1, g2, g3, (h.rtr g4).wk (fun _ z => z) (fun _ z => z) (fun _ _ z => z) (Nat.le_refl _) (by omega)⟩
/-- a String that stays: a constant, or its cells are done -/
def stf (H : mu_H) (F : Nat → Prop) (q : Nat) (b : List Int32) : Prop := sb H (some q) b ∧ (1000000 ≤ q ∧ sbv H (some q) = some (q + 1000) ∨ F q ∧ ∃ w, sbv H (some q) = some w ∧ F w) ∧ b.length < 131072
/-- the word's letters are few -/
theorem pst.sl {n dep : Nat} {T : Nat → Int32} {t : Int32 × Nat × Nat} {F : Nat → Prop} {H : mu_H} (h : pst T n t dep F H) : (slc T t.2.1 t.2.2).length < 131072 := by rw [slc_len]; have := h.tkf.2.2; have := h.nn; omega
theorem stf.lit {H : mu_H} {F : Nat → Prop} {j : Nat} (ho : mu_ot H) (hj : j < 79) : stf H F (1000000 + j) (txt j) := ⟨sb_lit ho hj, Or.inl ⟨Nat.le_add_right _ _, if_pos (Nat.le_add_right _ _)⟩, Nat.lt_trans (txt_len j hj) (by decide)⟩
section Keep
variable {a a' n dep dep' : Nat} {W F F1 : Nat → Prop} {H H0 H1 : mu_H} {T : Nat → Int32} {t : Int32 × Nat × Nat} {b : List Int32} {q : Nat}
theorem stf.kp {a b' : Nat} (h : stf H F q b) (hk : kep W a b' H H1) (hW : ∀ p, W p → ¬ F p ∧ p < 1000000) : stf H1 F q b := by
  obtain ⟨h1, h2, h0⟩ := h
  have hs : sb H1 (some q) b := by
    refine hk.sb h1 (fun z => ?_) (fun z => ?_)
    · have z : W q := z
      rcases h2 with h2 | h2
      · have := (hW q z).2; omega
      · exact (hW q z).1 h2.1
    · rcases h2 with ⟨h2, e⟩ | ⟨h2, w, e, hw⟩
      · rw [e] at z
        have := (hW _ z).2
        have : q + 1000 < 1000000 := this
        omega
      · rw [e] at z
        exact (hW _ z).1 hw
  have hv : ∀ w, sbv H (some q) = some w → sbv H1 (some q) = some w := by
    intro w e
    unfold sbv at e ⊢
    by_cases c : 1000000 ≤ mu_p (some q)
    · rw [if_pos c] at e ⊢; exact e
    · rw [if_neg c] at e ⊢
      have hq : mu_p (some q) < mu_z H := by
        rcases h1.1 with z | z
        · exact absurd z.2.1 c
        · exact z.2.1
      rw [hk.r (Or.inl hq) (fun z => ?_)]
      · exact e
      · rcases h2 with h2 | h2
        · exact c h2.1
        · exact (hW q z).1 h2.1
  refine ⟨hs, ?_, h0⟩
  rcases h2 with ⟨h2, e⟩ | ⟨h2, w, e, hw⟩
  · exact Or.inl ⟨h2, hv _ e⟩
  · exact Or.inr ⟨h2, w, hv _ e, hw⟩
theorem stf.mono (h : stf H F q b) (hF : ∀ p, F p → F1 p) : stf H F1 q b := ⟨h.1, h.2.1.imp id (fun ⟨z, w, e, hw⟩ => ⟨hF _ z, w, e, hF _ hw⟩), h.2.2⟩
theorem pst.nF (h : pst T n t dep F H) : ∀ p, (p = 169 ∨ mu_r H 169 13 = some p) → ¬ F p ∧ p < 1000000 := by
  intro p hp
  obtain ⟨r, r1, ⟨r2, r3⟩, r4, r5⟩ := h.2.2.2.2.2
  rcases hp with e | e
  · subst e
    exact ⟨fun z => absurd (h.fz _ z).1 (by decide), by decide⟩
  · refine ⟨fun z => (h.fz _ z).2.2 e, ?_⟩
    rw [r1] at e
    cases e
    exact r3
theorem stf.keep (h : stf H F q b) (hs : pst T n t dep F H) (hp : pfr a F F1 H H1) : stf H1 F1 q b := (h.kp hp.1.1 hs.nF).mono hp.2.2.1
/-- the parser's state over changes elsewhere -/
theorem pst.kp {a b' : Nat} (h : pst T n t dep F H) (hk : kep W a b' H H1) (hW : ∀ p, W p → ¬ F p ∧ 200 < p ∧ p < 1000000 ∧ mu_r H 169 13 ≠ some p) : pst T n t dep F H1 := by
  have hsl := h.sl
  obtain ⟨g1, g2, ⟨⟨k1, k2, k3⟩, k4, k5, k6⟩, g4, g5, p, p1, ⟨p2, p2'⟩, p3, p4, p5⟩ := h
  have h169 : ¬ W 169 := fun z => absurd (hW _ z).2.1 (by decide)
  have z200 := g1.1
  have r0 : rfr [] [] W a b' H H1 := rfr.of hk (by omega) h169
  have ei : ∀ k, mu_i H1 169 k = mu_i H 169 k := fun k => r0.2.1 k (by simp)
  have er : ∀ k, mu_r H1 169 k = mu_r H 169 k := fun k => r0.2.2.1 k (by simp)
  have hz := hk.1
  refine ⟨g1.keep r0 (fun _ z => by cases z) (fun x z => ?_), g2.keep g1 r0 (by simp) (fun z => absurd (hW _ z).2.1 (by decide)), ⟨⟨(ei 7).trans k1, (ei 8).trans k2, (ei 6).trans k3⟩, fun e => (ei 10).trans (k4 e), fun e => ?_, k6⟩, ⟨(ei 12).trans g4.1, g4.2⟩, fun x z => ?_, p, (er 13).trans p1, ⟨by omega, p2'⟩, p3, ?_⟩
  · have := (hW x z).2.1
    simp only [List.mem_cons, List.not_mem_nil, or_false]
    omega
  · obtain ⟨q, w, b1, b2, b3, b4, b5⟩ := k5 e
    have s1 : stf H1 F q (slc T t.2.1 t.2.2) := stf.kp ⟨b5, Or.inr ⟨b2, w, b3, b4⟩, hsl⟩ hk (fun x z => ⟨(hW x z).1, (hW x z).2.2.1⟩)
    rcases s1.2.1 with c | ⟨c1, w', c2, c3⟩
    · exact absurd c.1 (by have := (g5 q b2).2.1.2; omega)
    · exact ⟨q, w', (er 11).trans b1, c1, c2, c3, s1.1⟩
  · rw [er 13]
    exact ⟨(g5 x z).1, ⟨by have := (g5 x z).2.1.1; omega, (g5 x z).2.1.2⟩, (g5 x z).2.2⟩
  · have sm : mu_same H H1 p := hk.2.1 p (Or.inl p2) (fun z => (hW p z).2.2.2 p1)
    exact ⟨sm.1.trans p4, by rw [sm.2.1]; exact p5⟩
theorem pst.mono (h : pst T n t dep F H) (h1 : ∀ p, F p → F1 p) (h2 : ∀ p, F1 p → F p ∨ 200 < p ∧ (p < mu_z H ∧ p < 1000000) ∧ mu_r H 169 13 ≠ some p) : pst T n t dep F1 H := by
  obtain ⟨g1, g2, ⟨k1, k4, k5, k6⟩, g4, g5, g6⟩ := h
  refine ⟨g1, g2, ⟨k1, k4, fun e => ?_, k6⟩, g4, fun p z => (h2 p z).elim (g5 p) id, g6⟩
  obtain ⟨q, w, b1, b2, b3, b4, b5⟩ := k5 e
  exact ⟨q, w, b1, h1 _ b2, b3, h1 _ b4, b5⟩
theorem pfr.kp {a2 b2 : Nat} (h : pfr a F F1 H0 H) (hk : kep W a2 b2 H H1) (hW : ∀ p, W p → mu_z H0 ≤ p ∧ p < 1000000) (hb : b2 ≤ 10 * a2) (h9 : 169 < mu_z H0) : pfr (a + a2) F F1 H0 H1 := by
  obtain ⟨x1, x2, x3, x4⟩ := h
  have hz : mu_z H0 ≤ mu_z H := x1.1.1
  have r0 : rfr [] [] W a2 b2 H H1 := rfr.of hk (by omega) (fun z => by have := (hW _ z).1; omega)
  have er : mu_r H1 169 13 = mu_r H 169 13 := r0.2.2.1 13 (by simp)
  refine ⟨(x1.tr r0 (Fi := [6, 7, 8, 10, 12]) (Fr := [11, 13]) (W := fun p => mu_r H0 169 13 = some p) (fun _ z => z.elim id (fun z => by cases z)) (fun _ z => z.elim id (fun z => by cases z)) (fun p hp z => ?_)).wk (fun _ z => z) (fun _ z => z) (fun _ _ z => z) (Nat.le_refl _) (by omega), by rw [er]; exact x2, x3, x4⟩
  rcases z with z | z
  · exact z
  · have := hW p z
    omega
theorem pfr.fz {F2 : Nat → Prop} (h : pfr a F F1 H H1) (h1 : ∀ p, F1 p → F2 p) (h2 : ∀ p, F2 p → F1 p ∨ mu_z H ≤ p) : pfr a F F2 H H1 := ⟨h.1, h.2.1, fun p z => h1 p (h.2.2.1 p z), fun p z => (h2 p z).elim (h.2.2.2 p) Or.inr⟩
/-- another depth -/
theorem pst.dp (h : pst T n t dep F H) (hd : dep' ≤ 150) : pst T n t dep' F (mu_si H 169 12 (nI dep')) ∧ pfr 0 F F H (mu_si H 169 12 (nI dep')) := by
  have hn := h.nF
  have hsl := h.sl
  obtain ⟨g1, g2, ⟨k1, k4, k5, k6⟩, g4, g5, p, p1, p2, p3, p4, p5⟩ := h
  have hp : pfr 0 F F H (mu_si H 169 12 (nI dep')) := ⟨rfr.rf.si (by decide), Or.inl rfl, fun _ z => z, fun _ z => Or.inl z⟩
  refine ⟨⟨g1, g2, ⟨k1, k4, fun e => ?_, k6⟩, ⟨rfl, hd⟩, g5, p, p1, p2, p3, p4, p5⟩, hp⟩
  obtain ⟨q, w, b1, b2, b3, b4, b5⟩ := k5 e
  have s1 : stf (mu_si H 169 12 (nI dep')) F q (slc T t.2.1 t.2.2) := stf.kp ⟨b5, Or.inr ⟨b2, w, b3, b4⟩, hsl⟩ hp.1.1 hn
  rcases s1.2.1 with c | ⟨c1, w', c2, c3⟩
  · exact absurd c.1 (by have := (g5 q b2).2.1.2; omega)
  · exact ⟨q, w', b1, c1, c2, c3, s1.1⟩
end Keep


theorem rp_can {d : Nat} {H : mu_H} {x : Int32} : mu_TX (mu_D (d + 1)) 56 [.inr (.inr (some 169)), .inl x] H (fun H1 => x = 0 ∧ H1 = mu_ex H) (fun v H1 => ¬ x = 0 ∧ v = some (.inl 1) ∧ H1 = H) := by
  refine mu_meth (M := mu_m56) rfl rfl ?_
  refine mw_ht (mu_fn_of (show [0, 1].Nodup by decide)) ?_
  refine mw_go mu_g56 (k := 1) (f1 := (1, [(0, .inr (.inr (some 169))), (1, .inl x)], [.inl x], H)) (C := []) rfl trivial ?_
  refine mw_if (P := x = 0) (a := 4) (b := 12) (fun _ => rfl) trivial (fun h1 => ?_) (fun h1 => ?_)
  · -- 4
    exact mw_of (fun _ => mu_throw rfl rfl rfl rfl (by decide) rfl (by decide) (Or.inl ⟨_, rfl, h1, rfl⟩))
  · -- 12
    refine mw_go mu_g56 (k := 1) (f1 := (13, [(0, .inr (.inr (some 169))), (1, .inl x)], [.inl (1 : Int32)], H)) (C := []) rfl trivial ?_
    exact mw_of (fun _ => mu_ret rfl (Or.inr rfl) (Or.inr ⟨_, _, rfl, h1, rfl, rfl⟩))
theorem nest_hi {dep : Nat} (h : (150 : Int32) < nI (dep + 1)) (hd : dep ≤ 150) : dep = 150 := by
  have := nI_below (a := 150) (b := dep + 1) (by decide) (by omega) h
  omega
theorem nest_lo {dep : Nat} (h : ¬ (150 : Int32) < nI (dep + 1)) (hd : dep ≤ 150) : dep < 150 := by
  apply Decidable.byContradiction
  intro c
  have e : dep = 150 := by omega
  subst e
  exact h (by decide)
theorem pst.bad12 {n dep : Nat} {x : Int32} {T : Nat → Int32} {t : Int32 × Nat × Nat} {F : Nat → Prop} {H : mu_H} (h : pst T n t dep F H) : pbd T n t.2.1 1 H (mu_ex (mu_si H 169 12 x)) := by
  refine ⟨h.1, h.2.1, h.2.2.1.1.2.1, ?_⟩
  have r : rfr [6, 7, 8, 10, 12] [11, 13] (fun p => mu_r H 169 13 = some p) 0 0 H (mu_si H 169 12 x) := rfr.rf.si (by decide)
  exact ⟨(r.1.exc).wk (fun _ _ z => z) (by omega) (by omega), r.2.1, r.2.2.1, r.2.2.2⟩
theorem rp_nest {d n dep : Nat} {T : Nat → Int32} {t : Int32 × Nat × Nat} {F : Nat → Prop} {H : mu_H} (h : pst T n t dep F H) : mu_TX (mu_D (d + 2)) 496 [.inr (.inr (some 169))] H (fun H1 => dep = 150 ∧ pbd T n t.2.1 1 H H1) (fun v H1 => v = none ∧ dep < 150 ∧ H1 = mu_si H 169 12 (nI (dep + 1))) := by
  refine mu_meth (M := mu_m496) rfl rfl ?_
  refine mw_ht (mu_fn_of (show [0].Nodup by decide)) ?_
  have hd := h.2.2.2.1.2
  refine mw_go mu_g496 (k := 10) (f1 := (18, [(0, .inr (.inr (some 169)))], [.inl (150 : Int32), .inl ((mu_i H 169 12) + (1 : Int32)), .inr (.inr (some 169))], (mu_si H 169 12 ((mu_i H 169 12) + (1 : Int32))))) (C := [mu_is H (some 169) 1, mu_is H (some 169) 1, mu_is H (some 169) 1]) rfl (show (mu_is H (some 169) 1) ∧ (mu_is H (some 169) 1) ∧ (mu_is H (some 169) 1) from ⟨h.is, h.is, h.is⟩) ?_
  refine mw_fr (f' := (18, [(0, .inr (.inr (some 169)))], [.inl (150 : Int32), .inl (nI (dep + 1)), .inr (.inr (some 169))], (mu_si H 169 12 (nI (dep + 1))))) (by first | (rw [h.f12, (show nI dep + (1 : Int32) = nI (dep + 1) from nI_add _ _)]; done) | (rw [h.f12, (show nI dep + (1 : Int32) = nI (dep + 1) from nI_add _ _)]; rfl)) ?_
  refine mw_if (P := (150 : Int32) < (nI (dep + 1))) (a := 25) (b := 21) (fun _ => rfl) trivial (fun h1 => ?_) (fun h1 => ?_)
  · -- 25
    refine mw_go mu_g496 (k := 1) (f1 := (26, [(0, .inr (.inr (some 169)))], [.inl (0 : Int32), .inr (.inr (some 169))], (mu_si H 169 12 (nI (dep + 1))))) (C := []) rfl trivial ?_
    refine mw_cX (as := [.inl (0 : Int32)]) (o := (some 169)) (S1 := []) rfl rfl rfl rfl (by decide) (by decide) h.is rfl (rp_can (d := d)) (fun H1 e => Or.inl ⟨_, rfl, nest_hi h1 hd, by rw [e.2]; exact h.bad12⟩) (fun v H1 q => ?_)
    obtain ⟨q, _⟩ := q
    exact absurd rfl q
  · -- 21
    refine mw_go mu_g496 (k := 2) (f1 := (26, [(0, .inr (.inr (some 169)))], [.inl (1 : Int32), .inr (.inr (some 169))], (mu_si H 169 12 (nI (dep + 1))))) (C := []) rfl trivial ?_
    refine mw_cX (as := [.inl (1 : Int32)]) (o := (some 169)) (S1 := []) rfl rfl rfl rfl (by decide) (by decide) h.is rfl (rp_can (d := d)) (fun H1 e => absurd e.1 (by decide)) (fun v H1 q => ?_)
    obtain ⟨_, rfl, e⟩ := q
    rw [e]
    show mu_W _ mu_m496 (29, [(0, .inr (.inr (some 169)))], [.inl (1 : Int32)], (mu_si H 169 12 (nI (dep + 1)))) _
    refine mw_go mu_g496 (k := 1) (f1 := (30, [(1, .inl (1 : Int32)), (0, .inr (.inr (some 169)))], [], (mu_si H 169 12 (nI (dep + 1))))) (C := []) rfl trivial ?_
    exact mw_of (fun _ => mu_ret rfl trivial (Or.inr ⟨_, _, rfl, rfl, nest_lo h1 hd, rfl⟩))
theorem rp_expect {d n dep : Nat} {T : Nat → Int32} {t : Int32 × Nat × Nat} {F : Nat → Prop} {H : mu_H} (h : pst T n t dep F H) (hz : mu_z H + pot n t + 20 ≤ 1000000) {j : Nat} (hj : j < 79) : mu_TX (mu_D (d + 8)) 54 [.inr (.inr (some 169)), .inr (.inr (some (1000000 + j)))] H (fun H1 => tis T t (txt j) = 0 ∧ pbd T n t.2.1 1 H H1) (fun v H1 => v = none ∧ ¬ tis T t (txt j) = 0 ∧ (∃ F1, pst T n (tkz T n t.2.2) dep F1 H1 ∧ pfr ((tkz T n t.2.2).2.2 - t.2.2 + 4) F F1 H H1)) := by
  refine mu_meth (M := mu_m54) rfl rfl ?_
  refine mw_ht (mu_fn_of (show [0, 1].Nodup by decide)) ?_
  refine mw_go mu_g54 (k := 3) (f1 := (3, [(0, .inr (.inr (some 169))), (1, .inr (.inr (some (1000000 + j))))], [.inr (.inr (some (1000000 + j))), .inr (.inr (some 169)), .inr (.inr (some 169))], H)) (C := []) rfl trivial ?_
  refine mw_cIe (fun _ => rfl) (show mu_is H (some 169) 1 from h.is) (rp_isL (d := d + 4) h hj) ?_
  refine mw_cX (as := [.inl (tis T t (txt j))]) (o := (some 169)) (S1 := []) rfl rfl rfl rfl (by decide) (by decide) h.is rfl (rp_can (d := d + 6)) (fun H1 e => Or.inl ⟨_, rfl, e.1, by rw [e.2]; exact h.bad⟩) (fun v H1 q => ?_)
  obtain ⟨h1, rfl, e⟩ := q
  rw [e]
  show mu_W _ mu_m54 (9, [(0, .inr (.inr (some 169))), (1, .inr (.inr (some (1000000 + j))))], [.inl (1 : Int32)], H) _
  refine mw_go mu_g54 (k := 2) (f1 := (11, [(2, .inl (1 : Int32)), (0, .inr (.inr (some 169))), (1, .inr (.inr (some (1000000 + j))))], [.inr (.inr (some 169))], H)) (C := []) rfl trivial ?_
  refine mw_cV (fun _ => rfl) (show mu_is H (some 169) 1 from h.is) (rp_advance (d := d) h (tis_ne h1) hz) (fun H2 hq => ?_)
  exact mw_of (fun _ => mu_ret rfl trivial (Or.inr ⟨_, _, rfl, rfl, h1, hq⟩))
theorem rp_name {d n dep : Nat} {T : Nat → Int32} {t : Int32 × Nat × Nat} {F : Nat → Prop} {H : mu_H} (h : pst T n t dep F H) (hz : mu_z H + pot n t + 20 ≤ 1000000) : mu_TX (mu_D (d + 8)) 486 [.inr (.inr (some 169))] H (fun H1 => nmz T t = 0 ∧ pbd T n t.2.1 1 H H1) (fun v H1 => ¬ nmz T t = 0 ∧ ∃ q F1, v = some (.inr (.inr (some q))) ∧ stf H1 F1 q (slc T t.2.1 t.2.2) ∧ pst T n (tkz T n t.2.2) dep F1 H1 ∧ pfr ((tkz T n t.2.2).2.2 - t.2.2 + 4) F F1 H H1) := by
  refine mu_meth (M := mu_m486) rfl rfl ?_
  refine mw_ht (mu_fn_of (show [0].Nodup by decide)) ?_
  refine mw_go mu_g486 (k := 2) (f1 := (2, [(0, .inr (.inr (some 169)))], [.inr (.inr (some 169)), .inr (.inr (some 169))], H)) (C := []) rfl trivial ?_
  refine mw_cIe (fun _ => rfl) (show mu_is H (some 169) 1 from h.is) (rp_atName (d := d + 3) h) ?_
  refine mw_cX (as := [.inl (nmz T t)]) (o := (some 169)) (S1 := []) rfl rfl rfl rfl (by decide) (by decide) h.is rfl (rp_can (d := d + 6)) (fun H1 e => Or.inl ⟨_, rfl, e.1, by rw [e.2]; exact h.bad⟩) (fun v H1 q => ?_)
  obtain ⟨h1, rfl, e⟩ := q
  rw [e]
  obtain ⟨q, w, b1, b2, b3, b4, b5⟩ := h.wd (nmz_2 h1)
  show mu_W _ mu_m486 (8, [(0, .inr (.inr (some 169)))], [.inl (1 : Int32)], H) _
  refine mw_go mu_g486 (k := 5) (f1 := (15, [(2, .inr (.inr (mu_r H 169 11))), (1, .inl (1 : Int32)), (0, .inr (.inr (some 169)))], [.inr (.inr (some 169))], H)) (C := [mu_is H (some 169) 1]) rfl (show mu_is H (some 169) 1 from h.is) ?_
  refine mw_fr (f' := (15, [(2, .inr (.inr (some q))), (1, .inl (1 : Int32)), (0, .inr (.inr (some 169)))], [.inr (.inr (some 169))], H)) (by first | (rw [b1]; done) | (rw [b1]; rfl)) ?_
  refine mw_cV (fun _ => rfl) (show mu_is H (some 169) 1 from h.is) (rp_advance (d := d) h (by rw [nmz_2 h1]; decide) hz) (fun H2 hq => ?_)
  refine mw_go mu_g486 (k := 1) (f1 := (19, [(2, .inr (.inr (some q))), (1, .inl (1 : Int32)), (0, .inr (.inr (some 169)))], [.inr (.inr (some q))], H2)) (C := []) rfl trivial ?_
  obtain ⟨F1, p1, p2⟩ := hq
  exact mw_of (fun _ => mu_ret rfl trivial (Or.inr ⟨_, _, rfl, h1, q, F1, rfl, stf.keep (F := F) ⟨b5, Or.inr ⟨b2, w, b3, b4⟩, h.sl⟩ h p2, p1, p2⟩))
