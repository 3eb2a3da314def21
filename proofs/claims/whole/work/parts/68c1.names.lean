/-! The reference: the row of names that a path is gathered in -/
theorem rp_name2 {d n dep : Nat} {T : Nat → Int32} {t : Int32 × Nat × Nat} {F : Nat → Prop} {H : mu_H} (h : pst T n t dep F H) (hz : mu_z H + pot n t + 20 ≤ 1000000) : mu_TX (mu_D (d + 8)) 486 [.inr (.inr (some 169))] H (fun H1 => nmz T t = 0 ∧ pbd T n t.2.1 1 H H1) (fun v H1 => ¬ nmz T t = 0 ∧ ∃ q F1, v = some (.inr (.inr (some q))) ∧ stf H1 F1 q (slc T t.2.1 t.2.2) ∧ pst T n (tkz T n t.2.2) dep F1 H1 ∧ pfr ((tkz T n t.2.2).2.2 - t.2.2 + 4) F F1 H H1 ∧ kpn H H1) := by
  refine mu_meth (M := mu_m486) rfl rfl ?_
  refine mw_ht (mu_fn_of (show [0].Nodup by decide)) ?_
  refine mw_go mu_g486 (k := 2) (f1 := (2, [(0, .inr (.inr (some 169)))], [.inr (.inr (some 169)), .inr (.inr (some 169))], H)) (C := []) rfl trivial ?_
  refine mw_cIe (fun _ => rfl) (show mu_is H (some 169) 1 from h.is) (rp_atName (d := d + 3) h) ?_
  refine mw_cX (as := [.inl (nmz T t)]) (o := (some 169)) (S1 := []) rfl rfl rfl rfl (by decide) (by decide) h.is rfl (rp_can (d := d + 6)) (fun H1 e => Or.inl ⟨_, rfl, e.1, by rw [e.2]; exact h.bad⟩) (fun v H1 q => ?_)
  obtain ⟨h1, rfl, e⟩ := q
  rw [e]
  obtain ⟨q, w, b1, b2, b3, b4, b5⟩ := h.wd (nmz_2 h1)
  show mu_W _ mu_m486 (8, [(0, .inr (.inr (some 169)))], [.inl (1 : Int32)], H) _
  refine mw_go mu_g486 (k := 5) (f1 := (15, [(2, .inr (.inr (mu_r H 169 11))), (1, .inl (1 : Int32)), (0, .inr (.inr (some 169)))], [.inr (.inr (some 169))], H)) (C := [mu_is H (some 169) 1]) rfl (show mu_is H (some 169) 1 from h.is) ?_
  refine mw_fr (f' := (15, [(2, .inr (.inr (some q))), (1, .inl (1 : Int32)), (0, .inr (.inr (some 169)))], [.inr (.inr (some 169))], H)) (by first | (rw [b1]; done) | (rw [b1]; rfl)) ?_
  refine mw_cV (fun _ => rfl) (show mu_is H (some 169) 1 from h.is) (rp_adv2 (d := d) h (by rw [nmz_2 h1]; decide) hz) (fun H2 hq => ?_)
  refine mw_go mu_g486 (k := 1) (f1 := (19, [(2, .inr (.inr (some q))), (1, .inl (1 : Int32)), (0, .inr (.inr (some 169)))], [.inr (.inr (some q))], H2)) (C := []) rfl trivial ?_
  obtain ⟨⟨F1, p1, p2⟩, p3⟩ := hq
  exact mw_of (fun _ => mu_ret rfl trivial (Or.inr ⟨_, _, rfl, h1, q, F1, rfl, stf.keep (F := F) ⟨b5, Or.inr ⟨b2, w, b3, b4⟩, h.sl⟩ h p2, p1, p2, p3⟩))
/-- the names ns lie in the row -/
def pnm (H : mu_H) (F : Nat → Prop) (ns : List (List Int32)) : Prop := ∀ p, mu_r H 169 13 = some p → ns.length ≤ mu_n H p ∧ ∀ i, i < ns.length → ∃ s, mu_r H p i = some s ∧ stf H F s (ns.getD i [])
section Pn
variable {a n dep p : Nat} {F F1 : Nat → Prop} {H H1 : mu_H} {T : Nat → Int32} {t : Tok} {ns : List (List Int32)}
theorem pnm.keep (h : pnm H F ns) (hs : pst T n t dep F H) (hp : pfr a F F1 H H1) (hk : kpn H H1) : pnm H1 F1 ns := by
  intro p e
  rw [hk.1] at e
  have sm := hk.2 p e
  obtain ⟨h1, h2⟩ := h p e
  refine ⟨by rw [sm.2.1]; exact h1, fun i hi => ?_⟩
  obtain ⟨s, s1, s2⟩ := h2 i hi
  exact ⟨s, (Sum.inr.inj (Sum.inr.inj (sm.2.2 i 2))).trans s1, s2.keep hs hp⟩
/-- a name is written into the row -/
theorem pst.pnw {i : Nat} {v : Option Nat} (h : pst T n t dep F H) (e : mu_r H 169 13 = some p) : pst T n t dep F (mu_sr H p i v) ∧ pfr 0 F F H (mu_sr H p i v) := by
  have hn := h.nF
  have hsl := h.sl
  have hf : pfr 0 F F H (mu_sr H p i v) := by
    have h169 : p ≠ 169 := fun z => by
      obtain ⟨r, r1, _, r3, _⟩ := h.2.2.2.2.2
      rw [r1] at e
      cases e
      exact r3 (by rw [z]; decide)
    refine ⟨⟨kep.rf.sr (Or.inl (Or.inr e)), fun _ _ => rfl, fun k _ => ?_, rfl⟩, Or.inl ?_, fun _ z => z, fun _ z => Or.inl z⟩
    · rw [mu_r_sr, if_neg (fun z => h169 z.1.symm)]
    · rw [mu_r_sr, if_neg (fun z => h169 z.1.symm)]
  refine ⟨?_, hf⟩
  obtain ⟨g1, g2, ⟨k1, k4, k5, k6⟩, g4, g5, r, r1, r2, r3, r4, r5⟩ := h
  have e13 : mu_r (mu_sr H p i v) 169 13 = mu_r H 169 13 := hf.2.1.elim id (fun ⟨x, y, z⟩ => by
    have y2 : mu_r (mu_sr H p i v) 169 13 = mu_r H 169 13 := by
      rw [mu_r_sr, if_neg (fun z => by rw [r1] at e; cases e; exact r3 (by rw [← z.1]; decide))]
    exact y2)
  refine ⟨g1.keep hf.1 (by decide) (fun x z => ?_), g2.keep g1 hf.1 (by decide) (fun z => ?_), ⟨k1, k4, fun c => ?_, k6⟩, g4, fun x z => by rw [e13]; exact g5 x z, r, e13.trans r1, r2, r3, r4, r5⟩
  · rw [r1] at z
    cases z
    intro y
    exact r3 (List.mem_cons_of_mem _ y)
  · rw [r1] at z
    cases z
    exact r3 (by decide)
  · obtain ⟨q, w, b1, b2, b3, b4, b5⟩ := k5 c
    have s1 : stf (mu_sr H p i v) F q (slc T t.2.1 t.2.2) := stf.kp ⟨b5, Or.inr ⟨b2, w, b3, b4⟩, hsl⟩ hf.1.1 hn
    have e11 : mu_r (mu_sr H p i v) 169 11 = mu_r H 169 11 := by
      rw [mu_r_sr, if_neg (fun z => by rw [r1] at e; cases e; exact r3 (by rw [← z.1]; decide))]
    rcases s1.2.1 with c | ⟨c1, w', c2, c3⟩
    · exact absurd c.1 (by have := (g5 q b2).2.1.2; omega)
    · exact ⟨q, w', e11.trans b1, c1, c2, c3, s1.1⟩
end Pn
