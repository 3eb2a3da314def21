/-! The reference: soundness of a text, common words -/
/-- a call that returns, or throws the exception number x -/
def mu_TE (x : Nat) (run : Nat → List ev_V → List ev_C → Option ev_R) (j : Nat) (as : List mu_V) (H : mu_H) (E : mu_H → Prop) (Q : Option mu_V → mu_H → Prop) : Prop := mu_MT run j as H (fun r => (∃ H1, r = (.inr x, H1) ∧ E H1) ∨ ∃ v H1, r = (.inl v, H1) ∧ Q v H1)
theorem mw_cE {x : Nat} {run : Nat → List ev_V → List ev_C → Option ev_R} {M : ev_M} {pc idx j na ci : Nat} {rest : List Nat} {L : mu_L} {S as S1 : List mu_V} {o : Option Nat} {H : mu_H} {Φ : mu_R → Prop} {E : mu_H → Prop} {Q : Option mu_V → mu_H → Prop} (hf : ev_find M.2.2.2 pc = some (.invokevirtual idx, j :: na :: ci :: rest)) (hS : S.take na = as.reverse) (hS2 : S.drop na = .inr (.inr o) :: S1) (hn : as.length = na) (hw : mu_wds S1 ≤ 8) (hci : ci < 100) (ho : mu_is H o ci) (hh : M.2.2.1 = []) (hx4 : x < 4) (hT : mu_TE x run j (.inr (.inr o) :: as) H E Q) (hx : ∀ H1, E H1 → Φ (.inr x, H1)) (hk : ∀ v H1, Q v H1 → mu_W run M (pc + 3, L, v.toList ++ S1, H1) Φ) : mu_W run M (pc, L, S, H) Φ := by
  refine mw_cx hf hS hS2 hn hw hci ho hh hT (fun y H1 q => ?_) (fun v H1 q => ?_)
  · rcases q with ⟨H2, e, q⟩ | ⟨v, H2, e, q⟩
    · cases e; exact ⟨hx4, hx _ q⟩
    · cases e
  · rcases q with ⟨H2, e, q⟩ | ⟨v', H2, e, q⟩
    · cases e
    · cases e; exact hk _ _ q
/-- cells are made, and nothing else -/
def knw (a : Nat) (H H1 : mu_H) : Prop := kep (fun _ => False) a (10 * a) H H1
theorem knw.rf {H : mu_H} : knw 0 H H := kep.rf
theorem knw.ex {H : mu_H} : knw 1 H (mu_ex H) := (kep.rf.exc).wk (fun _ _ z => z) (by omega) (by omega)
theorem knw.tr {a b : Nat} {H H1 H2 : mu_H} (h : knw a H H1) (h2 : knw b H1 H2) : knw (a + b) H H2 := (kep.tr h h2 (W := fun _ => False) (fun p _ z => z.elim id id)).wk (fun _ _ z => z) (Nat.le_refl _) (by omega)
theorem knw.wk {a b : Nat} {H H1 : mu_H} (h : knw a H H1) (hb : a ≤ b) : knw b H H1 := kep.wk h (fun _ _ z => z) hb (by omega)
/-- the first place from k on (m places are looked at) where P holds -/
def fio (P : Nat → Bool) : Nat → Nat → Option Nat
  | 0, _ => none
  | m + 1, k => if P k = true then some k else fio P m (k + 1)
/-- a place as the reference tells it -/
def oI : Option Nat → Int32
  | none => -1
  | some i => nI i
theorem fio_some {P : Nat → Bool} : ∀ m k i, fio P m k = some i → P i = true ∧ k ≤ i ∧ i < k + m ∧ ∀ j, k ≤ j → j < i → ¬ P j = true
  | 0, _, _, h => by cases h
  | m + 1, k, i, h => by
    rw [fio] at h
    by_cases e : P k = true
    · rw [if_pos e] at h
      have e2 := Option.some.inj h
      subst e2
      exact ⟨e, Nat.le_refl _, by omega, fun j h1 h2 => absurd h1 (by omega)⟩
    · rw [if_neg e] at h
      obtain ⟨h1, h2, h3, h4⟩ := fio_some m (k + 1) i h
      refine ⟨h1, by omega, by omega, fun j h5 h6 => ?_⟩
      by_cases e3 : j = k
      · rw [e3]; exact e
      · exact h4 j (by omega) h6
theorem fio_none {P : Nat → Bool} : ∀ m k, fio P m k = none → ∀ j, k ≤ j → j < k + m → ¬ P j = true
  | 0, _, _ => fun j h1 h2 => absurd h1 (by omega)
  | m + 1, k, h => by
    rw [fio] at h
    by_cases e : P k = true
    · rw [if_pos e] at h; cases h
    · rw [if_neg e] at h
      intro j h1 h2
      by_cases e3 : j = k
      · rw [e3]; exact e
      · exact fio_none m (k + 1) h j (by omega) (by omega)
abbrev nth (cs : List Tre) (k : Nat) : Tre := cs.getD k (fun _ => none)
abbrev nam (c : Tre) : List Int32 := (tns c).getD 0 []
abbrev mth (ms : List Mdl) (k : Nat) : Mdl := ms.getD k ([], [], [])
/-- find: the first part of kind j and name b -/
def fnd (cs : List Tre) (j : Nat) (b : List Int32) : Option Nat := fio (fun k => decide (tkd (nth cs k) = j ∧ nam (nth cs k) = b)) cs.length 0
/-- text: the first MODULE of name b -/
def mtx (ms : List Mdl) (b : List Int32) : Option Nat := fio (fun k => decide ((mth ms k).1 = b)) ms.length 0
/-- the texts, to be read -/
def rtx (H : mu_H) (F : Nat → Prop) (lv r : Nat) (ms : List Mdl) : Prop := mu_r H 169 14 = some r ∧ mu_is H (some r) 106 ∧ (ms.length ≤ mu_n H r ∧ mu_n H r < 2 ^ 31) ∧ mu_i H 169 15 = nI ms.length ∧ txm H F lv r ms ∧ mu_is H (some 169) 1
theorem rtx.kp {H H1 : mu_H} {F W : Nat → Prop} {lv r a b : Nat} {ms : List Mdl} (h : rtx H F lv r ms) (hk : kep W a b H H1) (hW : ∀ p, W p → ¬ F p ∧ p < 1000000) (h9 : ¬ W 169) (hr : ¬ W r) : rtx H1 F lv r ms := by
  obtain ⟨h1, h2, h3, h4, h5, h6⟩ := h
  refine ⟨(hk.r (Or.inl h6.2.1) h9 14).trans h1, hk.is h2 hr, by rw [hk.len (p := r) (Or.inl h2.2.1) hr]; exact h3, (hk.i (Or.inl h6.2.1) h9 15).trans h4, fun i hi => ?_, hk.is h6 h9⟩
  obtain ⟨m, m1, m2⟩ := h5 i hi
  exact ⟨m, (hk.r (Or.inl h2.2.1) hr i).trans m1, m2.kt (ktf.kp hk hW)⟩
theorem rtx.knw {H H1 : mu_H} {F : Nat → Prop} {lv r a : Nat} {ms : List Mdl} (h : rtx H F lv r ms) (hk : knw a H H1) : rtx H1 F lv r ms := h.kp hk (fun _ z => z.elim) id id
/-- a Module's fields -/
theorem mdf.rd {H : mu_H} {F : Nat → Prop} {lv m : Nat} {y : Mdl} (h : mdf H F lv m y) : mu_is H (some m) 17 ∧ (∃ w, mu_r H m 0 = some w ∧ stf H F w y.1) ∧ (∃ p, mu_r H m 1 = some p ∧ nd H F lv p (tmk 62 0 [] y.2.1)) ∧ ∃ q, mu_r H m 2 = some q ∧ nd H F lv q (tmk 67 0 [] y.2.2) := by
  obtain ⟨w, p, q, h1, h2, h3, h4⟩ := h
  exact ⟨h1.2.1.1, ⟨w, h1.2.2.1, h2⟩, ⟨p, h1.2.2.2.1, h3⟩, q, h1.2.2.2.2, h4⟩
theorem mdf.knw {H H1 : mu_H} {F : Nat → Prop} {lv m a : Nat} {y : Mdl} (h : mdf H F lv m y) (hk : knw a H H1) : mdf H1 F lv m y := h.kt (ktf.kp hk (fun _ z => z.elim))
theorem nd.knw {H H1 : mu_H} {F : Nat → Prop} {d q a : Nat} {c : Tre} (h : nd H F d q c) (hk : knw a H H1) : nd H1 F d q c := h.kp hk (fun _ z => z.elim)
