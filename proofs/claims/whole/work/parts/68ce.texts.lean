/-! The reference's texts: wider frames, the row of symbols, trees looked at -/
/-- what reading a text keeps: at most a cells are made; the rows of names and symbols may change -/
def qfr (a : Nat) (F F1 : Nat → Prop) (H H1 : mu_H) : Prop := rfr [6, 7, 8, 10, 12, 17] [11, 13, 16] (fun p => mu_r H 169 13 = some p ∨ mu_r H 169 16 = some p) a (10 * a) H H1 ∧ (∀ k, k = 13 ∨ k = 16 → mu_r H1 169 k = mu_r H 169 k ∨ ∃ p, mu_r H1 169 k = some p ∧ mu_z H ≤ p ∧ p < 1000000) ∧ (∀ p, F p → F1 p) ∧ (∀ p, F1 p → F p ∨ mu_z H ≤ p)
/-- a text is refused at e -/
def qbd (T : Nat → Int32) (n e a : Nat) (H H1 : mu_H) : Prop := rgd H1 ∧ rtp H1 T n ∧ mu_i H1 169 8 = nI e ∧ rfr [6, 7, 8, 10, 12, 17] [11, 13, 16] (fun p => mu_r H 169 13 = some p ∨ mu_r H 169 16 = some p) a (10 * a) H H1
section Qfr
variable {a a' a1 a2 n dep e : Nat} {F F1 F2 W : Nat → Prop} {H H0 H1 H2 : mu_H} {T : Nat → Int32} {t : Tok}
theorem qfr.rf : qfr 0 F F H H := ⟨rfr.rf, fun _ _ => Or.inl rfl, fun _ z => z, fun _ z => Or.inl z⟩
theorem qfr.z (h : qfr a F F1 H H1) : mu_z H ≤ mu_z H1 ∧ mu_z H1 ≤ mu_z H + a := ⟨h.1.1.1, h.1.1.2.2.1.1⟩
theorem qfr.wk (h : qfr a F F1 H H1) (ha : a ≤ a') : qfr a' F F1 H H1 := ⟨h.1.wk (fun _ z => z) (fun _ z => z) (fun _ _ z => z) ha (by omega), h.2⟩
theorem qfr.rtr {b c : Nat} (h : qfr a F F1 H H1) (h2 : rfr [6, 7, 8, 10, 12, 17] [11, 13, 16] (fun p => mu_r H1 169 13 = some p ∨ mu_r H1 169 16 = some p) b c H1 H2) : rfr [6, 7, 8, 10, 12, 17] [11, 13, 16] (fun p => mu_r H 169 13 = some p ∨ mu_r H 169 16 = some p) (a + b) (10 * a + c) H H2 := by
  obtain ⟨x1, x2, x3, x4⟩ := h
  have hz : mu_z H ≤ mu_z H1 := x1.1.1
  have up : ∀ k, k = 13 ∨ k = 16 → ∀ p, p < mu_z H ∨ 1000000 ≤ p → mu_r H1 169 k = some p → mu_r H 169 k = some p := by
    intro k hk p hp z
    rcases x2 k hk with e | ⟨q, e, hq⟩
    · rw [e] at z; exact z
    · have e2 : some q = some p := e.symm.trans z
      cases e2
      omega
  refine x1.tr h2 (fun _ z => z.elim id id) (fun _ z => z.elim id id) (fun p hp z => ?_)
  rcases z with z | z | z
  · exact z
  · exact Or.inl (up 13 (Or.inl rfl) p hp z)
  · exact Or.inr (up 16 (Or.inr rfl) p hp z)
theorem qfr.trq (h1 : qfr a1 F F1 H H1) (h2 : qfr a2 F1 F2 H1 H2) : qfr (a1 + a2) F F2 H H2 := by
  have hr := h1.rtr h2.1
  obtain ⟨x1, x2, x3, x4⟩ := h1
  obtain ⟨y1, y2, y3, y4⟩ := h2
  have hz : mu_z H ≤ mu_z H1 := x1.1.1
  refine ⟨hr.wk (fun _ z => z) (fun _ z => z) (fun _ _ z => z) (Nat.le_refl _) (by omega), fun k hk => ?_, fun p z => y3 p (x3 p z), fun p z => ?_⟩
  · rcases y2 k hk with e | ⟨q, e, hq⟩
    · rw [e]; exact x2 k hk
    · exact Or.inr ⟨q, e, by omega, hq.2⟩
  · rcases y4 p z with z | z
    · exact x4 p z
    · exact Or.inr (by omega)
theorem rfr.wide {b : Nat} (h : rfr [6, 7, 8, 10, 12] [11, 13] (fun p => mu_r H 169 13 = some p) a b H H1) : rfr [6, 7, 8, 10, 12, 17] [11, 13, 16] (fun p => mu_r H 169 13 = some p ∨ mu_r H 169 16 = some p) a b H H1 := h.wk (fun k z => by simp only [List.mem_cons, List.not_mem_nil, or_false] at z ⊢; omega) (fun k z => by simp only [List.mem_cons, List.not_mem_nil, or_false] at z ⊢; omega) (fun _ _ z => Or.inl z) (Nat.le_refl _) (Nat.le_refl _)
theorem pfr.q (h : pfr a F F1 H H1) : qfr a F F1 H H1 := by
  refine ⟨h.1.wide, fun k hk => ?_, h.2.2⟩
  rcases hk with e | e
  · subst e; exact h.2.1
  · subst e; exact Or.inl (h.1.2.2.1 16 (by decide))
theorem qfr.tr (h1 : qfr a1 F F1 H H1) (h2 : pfr a2 F1 F2 H1 H2) : qfr (a1 + a2) F F2 H H2 := h1.trq h2.q
theorem qfr.fz (h : qfr a F F1 H H1) (h1 : ∀ p, F1 p → F2 p) (h2 : ∀ p, F2 p → F1 p ∨ mu_z H ≤ p) : qfr a F F2 H H1 := ⟨h.1, h.2.1, fun p z => h1 p (h.2.2.1 p z), fun p z => (h2 p z).elim (h.2.2.2 p) Or.inr⟩
theorem qfr.kp {b2 : Nat} (h : qfr a F F1 H0 H) (hk : kep W a2 b2 H H1) (hW : ∀ p, W p → mu_z H0 ≤ p ∧ p < 1000000) (hb : b2 ≤ 10 * a2) (h9 : 169 < mu_z H0) : qfr (a + a2) F F1 H0 H1 := by
  obtain ⟨x1, x2, x3, x4⟩ := h
  have hz : mu_z H0 ≤ mu_z H := x1.1.1
  have r0 : rfr [] [] W a2 b2 H H1 := rfr.of hk (by omega) (fun z => by have := (hW _ z).1; omega)
  refine ⟨(x1.tr r0 (Fi := [6, 7, 8, 10, 12, 17]) (Fr := [11, 13, 16]) (W := fun p => mu_r H0 169 13 = some p ∨ mu_r H0 169 16 = some p) (fun _ z => z.elim id (fun z => by cases z)) (fun _ z => z.elim id (fun z => by cases z)) (fun p hp z => ?_)).wk (fun _ z => z) (fun _ z => z) (fun _ _ z => z) (Nat.le_refl _) (by omega), fun k hk2 => by rw [r0.2.2.1 k (by simp)]; exact x2 k hk2, x3, x4⟩
  rcases z with z | z
  · exact z
  · have := hW p z
    omega
theorem qbd.wk (h : qbd T n e a H H1) (ha : a ≤ a') : qbd T n e a' H H1 := ⟨h.1, h.2.1, h.2.2.1, h.2.2.2.wk (fun _ z => z) (fun _ z => z) (fun _ _ z => z) ha (by omega)⟩
theorem qfr.bdq (h : qfr a F F1 H H1) (h2 : qbd T n e a2 H1 H2) : qbd T n e (a + a2) H H2 := by
  obtain ⟨g1, g2, g3, g4⟩ := h2
  exact ⟨g1, g2, g3, (h.rtr g4).wk (fun _ z => z) (fun _ z => z) (fun _ _ z => z) (Nat.le_refl _) (by omega)⟩
theorem qfr.bd (h : qfr a F F1 H H1) (h2 : pbd T n e a2 H1 H2) : qbd T n e (a + a2) H H2 := h.bdq ⟨h2.1, h2.2.1, h2.2.2.1, h2.2.2.2.wide⟩
end Qfr
/-- the row of symbols: sy, in a row of cap places -/
def syr (H : mu_H) (F : Nat → Prop) (cap : Nat) (sy : List (List Int32)) : Prop := ∃ r, mu_r H 169 16 = some r ∧ (200 < r ∧ r < mu_z H ∧ r < 1000000) ∧ (¬ F r ∧ mu_r H 169 13 ≠ some r) ∧ (mu_k H r = 103 ∧ mu_n H r = cap) ∧ (sy.length ≤ cap ∧ 16 ≤ cap ∧ cap ≤ 2 * sy.length + 16 ∧ cap ≤ 2000000) ∧ mu_i H 169 17 = nI sy.length ∧ ∀ i, i < sy.length → ∃ s, mu_r H r i = some s ∧ stf H F s (sy.getD i [])
section Syr
variable {a b n dep cap : Nat} {F F1 W : Nat → Prop} {H H1 : mu_H} {T : Nat → Int32} {t : Tok} {sy : List (List Int32)}
theorem syr.keep (h : syr H F cap sy) (hs : pst T n t dep F H) (hp : pfr a F F1 H H1) : syr H1 F1 cap sy := by
  obtain ⟨r, r1, ⟨r2, r3, r4⟩, ⟨r5, r6⟩, ⟨r7, r8⟩, r9, r10, r11⟩ := h
  have hz := hp.z
  have nr : ¬ (r = 169 ∨ mu_r H 169 13 = some r) := fun z => z.elim (by omega) r6
  refine ⟨r, (hp.1.2.2.1 16 (by decide)).trans r1, ⟨r2, by omega, r4⟩, ⟨fun z => (hp.2.2.2 r z).elim r5 (by omega), ?_⟩, ⟨(hp.1.1.k (Or.inl r3) nr).trans r7, (hp.1.1.len (Or.inl r3) nr).trans r8⟩, r9, (hp.1.2.1 17 (by decide)).trans r10, fun i hi => ?_⟩
  · rcases hp.2.1 with e | ⟨q, e, hq⟩
    · rw [e]; exact r6
    · rw [e]; intro z; cases z; omega
  · obtain ⟨s, s1, s2⟩ := r11 i hi
    exact ⟨s, (hp.1.1.r (Or.inl r3) nr i).trans s1, s2.keep hs hp⟩
theorem syr.kp (h : syr H F cap sy) (hk : kep W a b H H1) (hW : ∀ p, W p → ¬ F p ∧ 200 < p ∧ p < 1000000) (hr : ∀ p, W p → mu_r H 169 16 ≠ some p) (h9 : 169 < mu_z H) : syr H1 F cap sy := by
  obtain ⟨r, r1, ⟨r2, r3, r4⟩, ⟨r5, r6⟩, ⟨r7, r8⟩, r9, r10, r11⟩ := h
  have nr : ¬ W r := fun z => hr r z r1
  have n9 : ¬ W 169 := fun z => absurd (hW _ z).2.1 (by decide)
  have hz := hk.1
  refine ⟨r, (hk.r (Or.inl h9) n9 16).trans r1, ⟨r2, by omega, r4⟩, ⟨r5, by rw [hk.r (Or.inl h9) n9 13]; exact r6⟩, ⟨(hk.k (Or.inl r3) nr).trans r7, (hk.len (Or.inl r3) nr).trans r8⟩, r9, (hk.i (Or.inl h9) n9 17).trans r10, fun i hi => ?_⟩
  obtain ⟨s, s1, s2⟩ := r11 i hi
  exact ⟨s, (hk.r (Or.inl r3) nr i).trans s1, s2.kp hk (fun p z => ⟨(hW p z).1, (hW p z).2.2⟩)⟩
theorem syr.mono (h : syr H F cap sy) (h1 : ∀ p, F p → F1 p) (h2 : ∀ p, F1 p → F p ∨ mu_r H 169 16 ≠ some p) : syr H F1 cap sy := by
  obtain ⟨r, r1, r2, ⟨r5, r6⟩, r7, r9, r10, r11⟩ := h
  refine ⟨r, r1, r2, ⟨fun z => (h2 r z).elim r5 (fun y => y r1), r6⟩, r7, r9, r10, fun i hi => ?_⟩
  obtain ⟨s, s1, s2⟩ := r11 i hi
  exact ⟨s, s1, s2.mono h1⟩
/-- a cell of another kind is not the row -/
theorem syr.ne {p k : Nat} (h : syr H F cap sy) (hk : mu_is H (some p) k) (h2 : k ≠ 103) : mu_r H 169 16 ≠ some p := by
  obtain ⟨r, r1, r2, r5, ⟨r7, r8⟩, _⟩ := h
  intro e
  rw [r1] at e
  cases e
  exact h2 (hk.2.2.symm.trans r7)
theorem syr.cp (h : syr H F cap sy) : sy.length ≤ cap ∧ 16 ≤ cap ∧ cap ≤ 2 * sy.length + 16 ∧ cap ≤ 2000000 := by
  obtain ⟨r, r1, r2, r5, r7, r9, _⟩ := h
  exact r9
end Syr
/-! Trees looked at -/
def tkd (c : Tre) : Nat := match c [] with
  | some i => i.1
  | none => 1000
def tnu (c : Tre) : Int32 := match c [] with
  | some i => i.2.1
  | none => 0
def tns (c : Tre) : List (List Int32) := match c [] with
  | some i => i.2.2.1
  | none => []
def tsn (c : Tre) : Nat := match c [] with
  | some i => i.2.2.2
  | none => 0
def tkk (c : Tre) (i : Nat) : Tre := fun r => c (i :: r)
theorem txt_inj : ∀ j, j < 79 → ∀ k, k < 79 → txt j = txt k → j = k := by decide +kernel
section Look
variable {H : mu_H} {F : Nat → Prop} {d q : Nat} {c : Tre}
/-- a Node read: kind, number, names, parts -/
theorem nd.rd (h : nd H F d q c) : tkd c < 79 ∧ (mu_is H (some q) 18 ∧ F q ∧ q < 1000000) ∧ (∃ s, mu_r H q 0 = some s ∧ stf H F s (txt (tkd c))) ∧ (mu_i H q 2 = nI (tsn c) ∧ mu_i H q 3 = tnu c ∧ mu_i H q 7 = cof (txt (tkd c))) ∧ nmf H F (mu_r H q 4) (tns c) ∧ ∃ a, mu_r H q 1 = some a ∧ F a ∧ mu_is H (some a) 109 ∧ (tsn c ≤ mu_n H a ∧ mu_n H a ≤ 2 * tsn c + 2 ∧ mu_n H a ≤ 2 ^ 21) ∧ (∀ i, i < tsn c → ∃ y, mu_r H a i = some y ∧ nd H F (d - 1) y (tkk c i)) ∧ 0 < d := by
  cases d with
  | zero => exact h.elim
  | succ d =>
    obtain ⟨k, x, ns, qs, ⟨h1, h2, a, cp, s, h3, ⟨o1, o2, o3, o4, o5, o6, ⟨o7, o8, o9, o10⟩, o11⟩, h5, h6, h7, h8⟩, h9, h10⟩ := h
    have e1 : tkd c = k := by unfold tkd; rw [h9]
    have e2 : tnu c = x := by unfold tnu; rw [h9]
    have e3 : tns c = ns := by unfold tns; rw [h9]
    have e4 : tsn c = qs.length := by unfold tsn; rw [h9]
    rw [e1, e2, e3, e4]
    exact ⟨h2, ⟨o1.1, h1, o1.2⟩, ⟨s, o3, h5⟩, ⟨o5, h6, o6⟩, h7, a, o4, h3, o2.1, by omega, fun i hi => ⟨_, (o11 i hi).1, h10 i hi⟩, Nat.succ_pos _⟩
theorem nd.s26 (h : nd H F d q c) : tsn c ≤ 2 ^ 21 := by
  obtain ⟨_, _, _, _, _, a, _, _, _, ⟨x, y, z⟩, _⟩ := h.rd
  omega
/-- is(k): the kind is told -/
theorem nd.isL {e j : Nat} (h : nd H F d q c) (hj : j < 79) : mu_TI (mu_D (e + 3)) 518 [.inr (.inr (some q)), .inr (.inr (some (1000000 + j)))] H (fun x H1 => x = (if tkd c = j then 1 else 0) ∧ H1 = H) := by
  obtain ⟨h1, h2, ⟨s, h3, h4⟩, _⟩ := h.rd
  refine (nd_isL (d := e) h2.1 h3 h4.1 (Nat.lt_trans h4.2.2 (by decide)) hj).imp (fun x H1 q => ⟨q.1.trans ?_, q.2⟩)
  by_cases e2 : tkd c = j
  · rw [if_pos e2, if_pos (by rw [e2])]
  · rw [if_neg e2, if_neg (fun z => e2 (txt_inj _ h1 _ hj z))]
/-- names read -/
theorem nmf.rd {o : Option Nat} {ns : List (List Int32)} (h : nmf H F o ns) (h2 : 0 < ns.length) : ∃ b, o = some b ∧ F b ∧ mu_is H (some b) 103 ∧ mu_n H b = ns.length ∧ ns.length ≤ 65536 ∧ ∀ i, i < ns.length → ∃ s, mu_r H b i = some s ∧ stf H F s (ns.getD i []) := by
  rcases h with h | ⟨b, h1, h2, h3, h4, h5, h6⟩
  · rw [h.2] at h2; exact absurd h2 (Nat.not_lt_zero _)
  · exact ⟨b, h1, h2, h3, h4, h5.2, h6⟩
/-- a place of a row of references -/
theorem ar_at {r k i : Nat} (h : mu_is H (some r) k) (hk : 103 ≤ k ∧ k ≤ 110 ∧ k ≠ 108) (hi : i < mu_n H r) (hm : mu_n H r < 2 ^ 31) : mu_is H (some r) (mu_k H r) ∧ (103 ≤ mu_k H r ∧ mu_k H r ≤ 110 ∧ mu_k H r ≠ 108) ∧ vp_in (nI i) (mu_n H r) ∧ (nI i).toNatClampNeg = i := by
  have e : mu_k H r = k := h.2.2
  refine ⟨⟨h.1, h.2.1, rfl⟩, by rw [e]; exact hk, vp_in_nI hi hm, nI_clamp (by omega)⟩
/-- the first place from k on (m places are looked at) where P holds, or -1 -/
def fid (P : Nat → Bool) : Nat → Nat → Int32
  | 0, _ => -1
  | m + 1, k => if P k = true then nI k else fid P m (k + 1)
/-- the symbols, to be read -/
def syl (H : mu_H) (sy : List (List Int32)) : Prop := ∃ r, mu_r H 169 16 = some r ∧ mu_is H (some r) 103 ∧ (sy.length ≤ mu_n H r ∧ mu_n H r < 2 ^ 31) ∧ mu_i H 169 17 = nI sy.length ∧ ∀ i, i < sy.length → ∃ s, mu_r H r i = some s ∧ sb H (some s) (sy.getD i []) ∧ (sy.getD i []).length < 131072
theorem syr.syl {cap : Nat} {sy : List (List Int32)} (h : syr H F cap sy) : syl H sy := by
  obtain ⟨r, r1, ⟨r2, r3, r4⟩, ⟨r5, r6⟩, ⟨r7, r8⟩, r9, r10, r11⟩ := h
  refine ⟨r, r1, ⟨rfl, r3, r7⟩, ⟨by omega, by omega⟩, r10, fun i hi => ?_⟩
  obtain ⟨s, s1, s2⟩ := r11 i hi
  exact ⟨s, s1, s2.1, s2.2.2⟩
end Look
/-! Answers of the pure parser that are no trees -/
def gpe {α : Type} (t : Tok) : Option (Nat ⊕ α) := some (.inl t.2.1)
def gok {α : Type} (x : α) : Option (Nat ⊕ α) := some (.inr x)
def gbi {β : Type} (r : PR) (k : Tre → Tok → Option (Nat ⊕ β)) : Option (Nat ⊕ β) := match r with
  | none => none
  | some (.inl e) => some (.inl e)
  | some (.inr (c, t)) => k c t
noncomputable def gex {β : Type} (T : Nat → Int32) (n j : Nat) (t : Tok) (k : Tok → Option (Nat ⊕ β)) : Option (Nat ⊕ β) := if tis T t (txt j) = 0 then gpe t else k (adv T n t)
section Gx
variable {α β : Type} {T : Nat → Int32} {n j : Nat} {t : Tok} {r : PR} {res : Nat ⊕ β}
theorem gex_no {k : Tok → Option (Nat ⊕ β)} (h : gex T n j t k = some res) (h0 : tis T t (txt j) = 0) : res = .inl t.2.1 := by
  unfold gex at h
  rw [if_pos h0] at h
  exact (Option.some.inj h).symm
theorem gex_ye {k : Tok → Option (Nat ⊕ β)} (h : gex T n j t k = some res) (h0 : ¬ tis T t (txt j) = 0) : k (adv T n t) = some res := by
  unfold gex at h
  rw [if_neg h0] at h
  exact h
theorem gbi_some {k : Tre → Tok → Option (Nat ⊕ β)} (h : gbi r k = some res) : ∃ r', r = some r' := by
  cases r with
  | none => cases h
  | some r => exact ⟨r, rfl⟩
theorem gbi_inl {k : Tre → Tok → Option (Nat ⊕ β)} {e : Nat} (h : gbi (some (.inl e)) k = some res) : res = .inl e := (Option.some.inj h).symm
theorem gbi_inr {k : Tre → Tok → Option (Nat ⊕ β)} {c : Tre} (h : gbi (some (.inr (c, t))) k = some res) : k c t = some res := h
theorem gpe_eq (h : (gpe t : Option (Nat ⊕ β)) = some res) : res = .inl t.2.1 := (Option.some.inj h).symm
theorem gok_eq {x : β} (h : gok x = some res) : res = .inr x := (Option.some.inj h).symm
end Gx
