/-! The reference: Modules being made; a text without the machine -/
/-- a Module: name w, params p, parts q -/
def mdo (H : mu_H) (F : Nat → Prop) (m w p q : Nat) : Prop := F m ∧ (mu_is H (some m) 17 ∧ m < 1000000) ∧ mu_r H m 0 = some w ∧ mu_r H m 1 = some p ∧ mu_r H m 2 = some q
/-- what is done stays done -/
def ktf (H : mu_H) (F : Nat → Prop) (H1 : mu_H) (F1 : Nat → Prop) : Prop := (∀ e y c, nd H F e y c → nd H1 F1 e y c) ∧ (∀ s b, stf H F s b → stf H1 F1 s b) ∧ (∀ m w p q, mdo H F m w p q → mdo H1 F1 m w p q) ∧ (∀ p, F p → F1 p)
section Ktf
variable {a b n dep cap : Nat} {F F1 F2 W : Nat → Prop} {H H1 H2 : mu_H} {T : Nat → Int32} {t : Tok} {sy : List (List Int32)}
theorem ktf.rf : ktf H F H F := ⟨fun _ _ _ z => z, fun _ _ z => z, fun _ _ _ _ z => z, fun _ z => z⟩
theorem ktf.tr (h1 : ktf H F H1 F1) (h2 : ktf H1 F1 H2 F2) : ktf H F H2 F2 := ⟨fun e y c z => h2.1 e y c (h1.1 e y c z), fun s b z => h2.2.1 s b (h1.2.1 s b z), fun m w p q z => h2.2.2.1 m w p q (h1.2.2.1 m w p q z), fun p z => h2.2.2.2 p (h1.2.2.2 p z)⟩
theorem ktf.kp (hk : kep W a b H H1) (hW : ∀ p, W p → ¬ F p ∧ p < 1000000) : ktf H F H1 F := by
  refine ⟨fun e y c z => z.kp hk hW, fun s b z => z.kp hk hW, fun m w p q z => ?_, fun _ z => z⟩
  obtain ⟨h1, ⟨h2, h3⟩, h4, h5, h6⟩ := z
  have hm : ¬ W m := fun y => (hW m y).1 h1
  exact ⟨h1, ⟨hk.is h2 hm, h3⟩, (hk.r (Or.inl h2.2.1) hm 0).trans h4, (hk.r (Or.inl h2.2.1) hm 1).trans h5, (hk.r (Or.inl h2.2.1) hm 2).trans h6⟩
theorem ktf.mono (h : ∀ p, F p → F1 p) : ktf H F H F1 := ⟨fun e y c z => z.mono h, fun s b z => z.mono h, fun m w p q z => ⟨h _ z.1, z.2⟩, h⟩
theorem ktf.pf (hs : pst T n t dep F H) (hp : pfr a F F1 H H1) : ktf H F H1 F1 := (ktf.kp hp.1.1 hs.nF).tr (ktf.mono hp.2.2.1)
theorem ktf.sf (hs : pst T n t dep F H) (hy : syr H F cap sy) (hf : sfr a H H1) : ktf H F H1 F := ktf.kp hf.1.1 (sfr.nF hs hy)
/-- where add writes -/
theorem nun.wr {H0 : mu_H} {f q r c s k : Nat} {x : Int32} {ns : List (List Int32)} {qs : List Nat} {cs : List Tre} (h : nun H0 H F f q r c s k x ns qs cs) (hy : syr H F cap sy) (h2 : 200 < mu_z H0) : ∀ p, (p = q ∨ p = r) → (¬ F p ∧ 200 < p ∧ p < 1000000) ∧ mu_r H 169 16 ≠ some p := by
  have n1 := hy.ne h.1.1.1 (by decide)
  have n2 := hy.ne h.1.2.1.1 (by decide)
  have l1 := h.2.2.2.2.2.1
  have l2 := h.2.2.2.2.1
  have l3 := h.1.1.2
  have l4 := h.1.2.1.2
  intro p z
  rcases z with e | e
  · subst e; exact ⟨⟨l2.1, by omega, l3⟩, n1⟩
  · subst e; exact ⟨⟨l2.2, by omega, l4⟩, n2⟩
end Ktf
/-- the symbols' state over a done Node -/
theorem nun.doneQ {H0 H Hb : mu_H} {F0 F : Nat → Prop} {f q a c s k A n dep cap : Nat} {x : Int32} {ns : List (List Int32)} {qs : List Nat} {cs : List Tre} {T : Nat → Int32} {t : Tok} {sy : List (List Int32)} (h : nun H0 H F f q a c s k x ns qs cs) (hs : pst T n t dep F H) (hy : syr H F cap sy) (h2 : 200 < mu_z H0) (hp : qfr A F0 F Hb H) (hb : mu_z Hb ≤ mu_z H0) : pst T n t dep (fz2 F q a) H ∧ nd H (fz2 F q a) (f + 1) q (tmk k x ns cs) ∧ qfr A F0 (fz2 F q a) Hb H ∧ syr H (fz2 F q a) cap sy ∧ ktf H F H (fz2 F q a) := by
  have n1 := hy.ne h.1.1.1 (by decide)
  have n2 := hy.ne h.1.2.1.1 (by decide)
  obtain ⟨g1, g3, g4, ⟨g5, g6, g7⟩, ⟨g8, g9⟩, ⟨g10, g11⟩, g12, g13⟩ := h
  have hqz : q < mu_z H := g1.1.1.2.1
  have haz : a < mu_z H := g1.2.1.1.2.1
  have hm : ∀ p, F p → fz2 F q a p := fun p z => Or.inl z
  refine ⟨hs.mono hm (fun p z => ?_), (g3.mono hm).done g1 g7 (g4.mono hm) g5 (g6.mono hm) (Or.inr (Or.inl rfl)) (Or.inr (Or.inr rfl)), hp.fz hm (fun p z => ?_), hy.mono hm (fun p z => ?_), ktf.mono hm⟩
  · rcases z with z | z | z
    · exact Or.inl z
    · subst z; exact Or.inr ⟨by omega, ⟨hqz, g1.1.2⟩, g12⟩
    · subst z; exact Or.inr ⟨by omega, ⟨haz, g1.2.1.2⟩, g13⟩
  · rcases z with z | z | z
    · exact Or.inl z
    · subst z; exact Or.inr (by omega)
    · subst z; exact Or.inr (by omega)
  · rcases z with z | z | z
    · exact Or.inl z
    · subst z; exact Or.inr n1
    · subst z; exact Or.inr n2
/-- a Module is being made: its parts q, the symbols; the frame since H0, what is done since Hs -/
def mmk (T : Nat → Int32) (n dep ff : Nat) (H0 : mu_H) (F0 : Nat → Prop) (Hs : mu_H) (Fs : Nat → Prop) (B q s : Nat) (t : Tok) (F : Nat → Prop) (H : mu_H) (cs : List Tre) (sy : List (List Int32)) : Prop := ∃ A a c cap qs, pst T n t dep F H ∧ syr H F cap sy ∧ nun H0 H F ff q a c s 67 0 [] qs cs ∧ qfr A F0 F H0 H ∧ ktf Hs Fs H F ∧ A + 27 * qs.length + 2 * sy.length + pot n t ≤ B + c + cap
/-! Modules of a text -/
abbrev QR := Option (Nat ⊕ (List Tre × List (List Int32) × Tok))
abbrev Mdl := List Int32 × List Tre × List Tre
def qbi {β : Type} (r : QR) (k : List Tre → List (List Int32) → Tok → Option (Nat ⊕ β)) : Option (Nat ⊕ β) := match r with
  | none => none
  | some (.inl e) => some (.inl e)
  | some (.inr (cs, sy, t)) => k cs sy t
section Mx
variable (T : Nat → Int32) (n f dep : Nat)
/-- VAR .. -/
noncomputable def mxV : Nat → List Tre → List (List Int32) → Tok → QR
  | 0, _, _, _ => none
  | g + 1, cs, sy, t => if nmz T t = 0 then gok (cs, sy, t) else gex T n 16 (adv T n t) fun t1 => gbi (pxT T n f dep t1) fun c t2 => gex T n 15 t2 fun t3 => mxV g (cs ++ [tmk 73 0 [slc T t.2.1 t.2.2] [c]]) (nsy c sy) t3
/-- DEFINE .. -/
noncomputable def mxD : Nat → List Tre → List (List Int32) → Tok → QR
  | 0, _, _, _ => none
  | g + 1, cs, sy, t => if nmz T t = 0 then gok (cs, sy, t) else gex T n 3 (adv T n t) fun t1 => gbi (px T n f 0 dep [] t1) fun c t2 => gex T n 15 t2 fun t3 => mxD g (cs ++ [tmk 74 0 [slc T t.2.1 t.2.2] [c]]) sy t3
/-- ASSIGN .. -/
noncomputable def mxA : Nat → List Tre → List (List Int32) → Tok → QR
  | 0, _, _, _ => none
  | g + 1, cs, sy, t => if nmz T t = 0 then
      (if one T t [32, 33] = 0 then gok (cs, sy, t)
       else gex T n 8 (adv T n t) fun t1 => if nmz T t1 = 0 then gpe t1 else gex T n 9 (adv T n t1) fun t2 => gex T n 3 t2 fun t3 => gbi (px T n f 11 dep [] t3) fun c t4 => gex T n 15 t4 fun t5 => mxA g (cs ++ [tmk (one T t [32, 33]) 0 [slc T t1.2.1 t1.2.2] [c]]) sy t5)
    else gex T n 3 (adv T n t) fun t3 => gbi (px T n f 11 dep [] t3) fun c t4 => gex T n 15 t4 fun t5 => mxA g (cs ++ [tmk 75 0 [slc T t.2.1 t.2.2] [c]]) sy t5
/-- what stands in a MODULE -/
noncomputable def mxP (nm : List Int32) (ps : List Tre) : Nat → List Tre → List (List Int32) → Tok → Option (Nat ⊕ (Mdl × List (List Int32) × Tok))
  | 0, _, _, _ => none
  | g + 1, cs, sy, t => if t.1 = 0 then gok ((nm, ps, cs), sy, t) else if tis T t (txt 28) = 0 then
      (if one T t [29, 30, 31, 34, 35, 36, 37, 38] = 0 then gpe t
       else if one T t [29, 30, 31, 34, 35, 36, 37, 38] = 29 then qbi (mxV T n f dep f cs sy (adv T n t)) fun cs1 sy1 t1 => mxP nm ps g cs1 sy1 t1
       else if one T t [29, 30, 31, 34, 35, 36, 37, 38] = 30 then qbi (mxD T n f dep f cs sy (adv T n t)) fun cs1 sy1 t1 => mxP nm ps g cs1 sy1 t1
       else if one T t [29, 30, 31, 34, 35, 36, 37, 38] = 31 then qbi (mxA T n f dep f cs sy (adv T n t)) fun cs1 sy1 t1 => mxP nm ps g cs1 sy1 t1
       else gbi (px T n f 0 dep [] (adv T n t)) fun c t1 => gex T n 15 t1 fun t2 => mxP nm ps g (cs ++ [tmk (one T t [29, 30, 31, 34, 35, 36, 37, 38]) 0 [txt 76] [c]]) sy t2)
    else gok ((nm, ps, cs), sy, t)
/-- what a MODULE is given -/
noncomputable def mxR (nm : List Int32) : Nat → List Tre → List (List Int32) → Tok → Option (Nat ⊕ (Mdl × List (List Int32) × Tok))
  | 0, _, _, _ => none
  | g + 1, ps, sy, t => if tis T t (txt 14) = 0 then gex T n 9 t (fun t1 => mxP T n f dep nm ps f [] sy t1) else if nmz T (adv T n t) = 0 then gpe (adv T n t) else mxR nm g (ps ++ [tmk 68 0 [slc T (adv T n t).2.1 (adv T n t).2.2] []]) sy (adv T n (adv T n t))
/-- a MODULE -/
noncomputable def mxM (sy : List (List Int32)) (t : Tok) : Option (Nat ⊕ (Mdl × List (List Int32) × Tok)) := gex T n 28 t fun t1 => if nmz T t1 = 0 then gpe t1 else
  if tis T (adv T n t1) (txt 8) = 0 then mxP T n f dep (slc T t1.2.1 t1.2.2) [] f [] sy (adv T n t1)
  else if nmz T (adv T n (adv T n t1)) = 0 then gpe (adv T n (adv T n t1)) else mxR T n f dep (slc T t1.2.1 t1.2.2) f [tmk 68 0 [slc T (adv T n (adv T n t1)).2.1 (adv T n (adv T n t1)).2.2] []] sy (adv T n (adv T n (adv T n t1)))
end Mx
section Vls
variable {T : Nat → Int32} {n : Nat}
/-- a symbol has a name -/
def vnk (v : Tre) : Prop := tkd v = 70 → 0 < (tns v).length
theorem pxv_vnk {t t1 : Tok} {c : Tre} (h : pxv T n t = some (.inr (c, t1))) : vnk c := by
  unfold pxv at h
  split at h
  · split at h
    · cases h; exact fun e => absurd (show (63 : Nat) = 70 from e) (by decide)
    · cases h
  · cases h; exact fun _ => Nat.succ_pos _
/-- what a set holds -/
def tvs (c : Tre) : Prop := tkd c = 69 → ∀ i, i < tsn c → tkd (tkk c i) = 70 → 0 < (tns (tkk c i)).length
theorem pxT1_vnk : ∀ g cs t c t1, (∀ i, i < cs.length → vnk (cs.getD i (fun _ => none))) → pxT1 T n g cs t = some (.inr (c, t1)) → tvs c
  | 0, _, _, _, _, _, h => by cases h
  | g + 1, cs, t, c, t1, hc, h => by
    rw [pxT1] at h
    split at h
    · unfold exq at h
      split at h
      · cases h
      · cases h; exact fun _ i hi => hc i hi
    · obtain ⟨r', hr⟩ := pbi_some h
      rw [hr] at h
      match r', hr, h with
      | .inl e, _, h => cases h
      | .inr (v, t2), hr, h =>
        refine pxT1_vnk g (cs ++ [v]) t2 c t1 (fun i hi => ?_) h
        rw [getD_appT]
        by_cases e : i = cs.length
        · rw [if_pos e]; exact pxv_vnk hr
        · rw [if_neg e]
          rw [List.length_append] at hi
          have hi : i < cs.length + 1 := hi
          exact hc i (by omega)
theorem pxT2_kd {f dep : Nat} {nm : List Int32} : ∀ g cs t c t1, pxT2 T n f dep nm g cs t = some (.inr (c, t1)) → tkd c = 72
  | 0, _, _, _, _, h => by cases h
  | g + 1, cs, t, c, t1, h => by
    rw [pxT2] at h
    split at h
    · unfold exq at h
      split at h
      · cases h
      · cases h; rfl
    · unfold nst at h
      split at h
      · dsimp only at h
        obtain ⟨r', hr⟩ := pbi_some h
        rw [hr] at h
        match r', hr, h with
        | .inl e, _, h => cases h
        | .inr (v, t2), hr, h => exact pxT2_kd g _ _ _ _ h
      · cases h
theorem tvs_ne {c : Tre} (h : tkd c ≠ 69) : tvs c := fun e => absurd e h
theorem pxT_vnk {f dep : Nat} {t t1 : Tok} {c : Tre} (h : pxT T n f dep t = some (.inr (c, t1))) : tvs c := by
  unfold pxT at h
  split at h
  · split at h
    · split at h
      · split at h
        · unfold exq at h
          split at h
          · cases h
          · dsimp only at h
            split at h
            · cases h; exact tvs_ne (show (71 : Nat) ≠ 69 by decide)
            · cases h
        · cases h
      · split at h
        · cases h; exact tvs_ne (show (72 : Nat) ≠ 69 by decide)
        · unfold nst at h
          split at h
          · dsimp only at h
            obtain ⟨r', hr⟩ := pbi_some h
            rw [hr] at h
            match r', hr, h with
            | .inl e, _, h => cases h
            | .inr (v, t2), hr, h =>
              have := pxT2_kd _ _ _ _ _ (show pxT2 T n f dep _ f [v] t2 = some (.inr (c, t1)) from h)
              exact tvs_ne (by rw [this]; decide)
          · cases h
    · obtain ⟨r', hr⟩ := pbi_some h
      rw [hr] at h
      match r', hr, h with
      | .inl e, _, h => cases h
      | .inr (v, t2), hr, h =>
        refine pxT1_vnk f [v] t2 c t1 (fun i hi => ?_) h
        have e : i = 0 := by have hi : i < 1 := hi; omega
        subst e
        exact pxv_vnk hr
  · cases h; exact tvs_ne (show (39 : Nat) ≠ 69 by decide)
end Vls
