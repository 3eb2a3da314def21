/-! FAIR PATHS, without the machine: least and greatest sets of STATES -/
/-- the least set that has q and, where p is, what leads into it -/
def EUS (G : Nat → Nat → Prop) (p q : Nat → Prop) (s : Nat) : Prop := ∀ S : Nat → Prop, (∀ x, q x → S x) → (∀ x y, p x → G x y → S y → S x) → S s
/-- a set in p, out of whose every STATE each FAIRNESS is met again in it -/
def EGZ (G : Nat → Nat → Prop) (nf : Nat) (Fs : Nat → Nat → Prop) (p Z : Nat → Prop) : Prop := ∀ z, Z z → p z ∧ (∃ t, G z t ∧ Z t) ∧ ∀ f, f < nf → ∃ t, G z t ∧ EUS G Z (fun x => Z x ∧ Fs f x) t
def EGS (G : Nat → Nat → Prop) (nf : Nat) (Fs : Nat → Nat → Prop) (p : Nat → Prop) (s : Nat) : Prop := ∃ Z, EGZ G nf Fs p Z ∧ Z s
/-- reached inside a set -/
def EZR (G : Nat → Nat → Prop) (Z : Nat → Prop) (x y : Nat) : Prop := G x y ∧ Z x ∧ Z y
/-- how many there are below n -/
noncomputable def ctn (P : Nat → Prop) : Nat → Nat
  | 0 => 0
  | n + 1 => ctn P n + @ite Nat (P n) (Classical.propDecidable _) 1 0
section FairSets2
variable {G RB Fs : Nat → Nat → Prop} {E : Nat → Nat → Prop} {p p' q q' A Z g0 P Q : Nat → Prop} {rx : Nat → Nat} {nf T a b s t u r w : Nat}
theorem EUS.mono (h : EUS G p q s) (hp : ∀ x, p x → p' x) (hq : ∀ x, q x → q' x) : EUS G p' q' s := fun S s1 s2 => h S (fun x hx => s1 x (hq x hx)) (fun x y hx => s2 x y (hp x hx))
theorem EUS.base (h : q s) : EUS G p q s := fun _ s1 _ => s1 s h
theorem EUS.step (hp : p s) (hg : G s t) (h : EUS G p q t) : EUS G p q s := fun S s1 s2 => s2 s t hp hg (h S s1 s2)
theorem EUS.two (h : EUS G p q s) : q s ∨ (p s ∧ ∃ t, G s t ∧ EUS G p q t) := by
  refine h (fun x => q x ∨ (p x ∧ ∃ t, G x t ∧ EUS G p q t)) (fun x hx => Or.inl hx) (fun x y hx hg hy => Or.inr ⟨hx, y, hg, ?_⟩)
  rcases hy with z | ⟨z1, t, z2, z3⟩
  · exact EUS.base z
  · exact EUS.step z1 z2 z3
theorem EUS.congr (hp : ∀ x, p x ↔ p' x) (hq : ∀ x, q x ↔ q' x) : EUS G p q s ↔ EUS G p' q' s := ⟨fun h => h.mono (fun x => (hp x).mp) (fun x => (hq x).mp), fun h => h.mono (fun x => (hp x).mpr) (fun x => (hq x).mpr)⟩
theorem EGS.congr (hp : ∀ x, p x ↔ p' x) : EGS G nf Fs p s ↔ EGS G nf Fs p' s := ⟨fun ⟨Z, h, hs⟩ => ⟨Z, fun z hz => ⟨(hp z).mp (h z hz).1, (h z hz).2⟩, hs⟩, fun ⟨Z, h, hs⟩ => ⟨Z, fun z hz => ⟨(hp z).mpr (h z hz).1, (h z hz).2⟩, hs⟩⟩
theorem EGS.inside (h : EGS G nf Fs p s) : p s := by
  obtain ⟨Z, hZ, hs⟩ := h
  exact (hZ s hs).1
theorem EGS.back (hu : p u) (hg : G u t) (h : EGS G nf Fs p t) : EGS G nf Fs p u := by
  obtain ⟨Z, hZ, ht⟩ := h
  have hZZ : ∀ x, Z x → Z x ∨ x = u := fun x hx => Or.inl hx
  refine ⟨fun v => Z v ∨ v = u, fun v hv => ?_, Or.inr rfl⟩
  rcases hv with hv | hv
  · obtain ⟨z1, ⟨t', z2, z3⟩, z4⟩ := hZ v hv
    refine ⟨z1, ⟨t', z2, Or.inl z3⟩, fun f hf => ?_⟩
    obtain ⟨t1, w1, w2⟩ := z4 f hf
    exact ⟨t1, w1, w2.mono hZZ (fun x hx => ⟨Or.inl hx.1, hx.2⟩)⟩
  · rw [hv]
    refine ⟨hu, ⟨t, hg, Or.inl ht⟩, fun f hf => ?_⟩
    obtain ⟨t1, w1, w2⟩ := (hZ t ht).2.2 f hf
    exact ⟨t, hg, EUS.step (Or.inl ht) w1 (w2.mono hZZ (fun x hx => ⟨Or.inl hx.1, hx.2⟩))⟩
theorem RT.rev (h : RT E a b) {S : Nat → Prop} (hb : S b) (hs : ∀ x y, E x y → S y → S x) : S a := h (fun x => S x → S a) (fun z => z) (fun x y hx e hy => hx (hs x y e hy)) hb
theorem RT.last (h : RT E a b) : a = b ∨ ∃ y, RT E a y ∧ E y b := by
  refine h (fun x => a = x ∨ ∃ y, RT E a y ∧ E y x) (Or.inl rfl) (fun x y hx e => Or.inr ⟨x, ?_, e⟩)
  rcases hx with z | ⟨z, z1, z2⟩
  · rw [← z]; exact RT.refl a
  · exact z1.trans (RT.one z2)
theorem ctn_le (h : ∀ x, P x → Q x) : ∀ n, ctn P n ≤ ctn Q n
  | 0 => Nat.le_refl _
  | n + 1 => by
    have ih := ctn_le h n
    show ctn P n + @ite Nat (P n) (Classical.propDecidable _) 1 0 ≤ ctn Q n + @ite Nat (Q n) (Classical.propDecidable _) 1 0
    by_cases hp : P n
    · rw [if_pos hp, if_pos (h n hp)]
      exact Nat.add_le_add_right ih 1
    · rw [if_neg hp]
      exact Nat.le_trans ih (Nat.le_add_right _ _)
theorem ctn_lt (h : ∀ x, P x → Q x) (hw : ¬ P w) (hq : Q w) : ∀ n, w < n → ctn P n < ctn Q n
  | 0, hn => absurd hn (Nat.not_lt_zero _)
  | n + 1, hn => by
    show ctn P n + @ite Nat (P n) (Classical.propDecidable _) 1 0 < ctn Q n + @ite Nat (Q n) (Classical.propDecidable _) 1 0
    by_cases e : w = n
    · have ih := ctn_le h n
      have hw' : ¬ P n := by rw [← e]; exact hw
      have hq' : Q n := by rw [← e]; exact hq
      rw [if_neg hw', if_pos hq']
      exact Nat.lt_succ_of_le ih
    · have ih := ctn_lt h hw hq n (by omega)
      by_cases hp : P n
      · rw [if_pos hp, if_pos (h n hp)]
        exact Nat.add_lt_add_right ih 1
      · rw [if_neg hp]
        exact Nat.lt_of_lt_of_le ih (Nat.le_add_right _ _)
/-- a fair ring of rows is one of STATES -/
theorem egs_ring (hG : ∀ s t, s < T → (G s t ↔ RB (rx s) t)) (hA : ∀ s, A s → s < T) (h : FRG RB A rx True nf Fs r) (hu : A u) (hr : rx u = r) : EGS G nf Fs A u := by
  obtain ⟨-, ⟨y0, hy1, hy2⟩, hf⟩ := h
  refine ⟨fun v => A v ∧ RT (EDG RB A rx) r (rx v) ∧ RT (EDG RB A rx) (rx v) r, fun v hv => ?_, hu, by rw [hr]; exact RT.refl r, by rw [hr]; exact RT.refl r⟩
  obtain ⟨v1, v2, v3⟩ := hv
  refine ⟨v1, ?_, fun f hfn => ?_⟩
  · rcases v3.first with e | ⟨y1, e1, e2⟩
    · obtain ⟨t, t1, t2, t3⟩ := hy1
      exact ⟨t, (hG v t (hA v v1)).mpr (by rw [e]; exact t1), t2, by rw [t3]; exact RT.one ⟨t, t1, t2, t3⟩, by rw [t3]; exact hy2⟩
    · obtain ⟨t, t1, t2, t3⟩ := e1
      exact ⟨t, (hG v t (hA v v1)).mpr t1, t2, by rw [t3]; exact v2.trans (RT.one ⟨t, t1, t2, t3⟩), by rw [t3]; exact e2⟩
  · obtain ⟨x, t, x1, x2, x3, x4, x5⟩ := hf f hfn
    have key : RT (EDG RB A rx) (rx v) r ∧ ∀ w, (A w ∧ RT (EDG RB A rx) r (rx w) ∧ RT (EDG RB A rx) (rx w) r) → rx w = rx v → ∃ t1, G w t1 ∧ EUS G (fun v => A v ∧ RT (EDG RB A rx) r (rx v) ∧ RT (EDG RB A rx) (rx v) r) (fun w => w = t) t1 := by
      refine RT.rev (S := fun y => RT (EDG RB A rx) y r ∧ ∀ w, (A w ∧ RT (EDG RB A rx) r (rx w) ∧ RT (EDG RB A rx) (rx w) r) → rx w = y → ∃ t1, G w t1 ∧ EUS G (fun v => A v ∧ RT (EDG RB A rx) r (rx v) ∧ RT (EDG RB A rx) (rx v) r) (fun w => w = t) t1) (v3.trans x1) ⟨?_, fun w hw hwx => ?_⟩ (fun y y' e hS => ⟨?_, fun w hw hwx => ?_⟩)
      · exact (RT.one ⟨t, x2, x3, rfl⟩).trans x5
      · exact ⟨t, (hG w t (hA w hw.1)).mpr (by rw [hwx]; exact x2), EUS.base rfl⟩
      · exact (RT.one e).trans hS.1
      · obtain ⟨t', e1, e2, e3⟩ := e
        have h2 : RT (EDG RB A rx) r y := by
          have := hw.2.1
          rw [hwx] at this
          exact this
        have ht' : A t' ∧ RT (EDG RB A rx) r (rx t') ∧ RT (EDG RB A rx) (rx t') r := ⟨e2, by rw [e3]; exact h2.trans (RT.one ⟨t', e1, e2, e3⟩), by rw [e3]; exact hS.1⟩
        obtain ⟨t1, g1, g2⟩ := hS.2 t' ht' e3
        exact ⟨t', (hG w t' (hA w hw.1)).mpr (by rw [hwx]; exact e1), EUS.step ht' g1 g2⟩
    obtain ⟨t1, g1, g2⟩ := key.2 v ⟨v1, v2, v3⟩ rfl
    have hZt : A t ∧ RT (EDG RB A rx) r (rx t) ∧ RT (EDG RB A rx) (rx t) r := ⟨x3, x1.trans (RT.one ⟨t, x2, x3, rfl⟩), x5⟩
    refine ⟨t1, g1, g2.mono (fun _ z => z) (fun w (hw : w = t) => ?_)⟩
    rw [hw]
    exact ⟨hZt, x4⟩
theorem egs_of (hG : ∀ s t, s < T → (G s t ↔ RB (rx s) t)) (hA : ∀ s, A s → s < T) (h : GDR RB A rx (fun _ => False) True nf Fs r) : ∀ u, A u → rx u = r → EGS G nf Fs A u := by
  refine h (fun r => ∀ u, A u → rx u = r → EGS G nf Fs A u) (fun x t _ hf => False.elim hf) (fun x hx u hu hr => egs_ring hG hA hx hu hr) (fun x y e hS u hu hr => ?_)
  obtain ⟨t, t1, t2, t3⟩ := e
  exact EGS.back hu ((hG u t (hA u hu)).mpr (by rw [hr]; exact t1)) (hS t t2 t3)
theorem ezr_rows (hG : ∀ s t, s < T → (G s t ↔ RB (rx s) t)) (hA : ∀ s, A s → s < T) (hZ : EGZ G nf Fs A Z) (h : RT (EZR G Z) s u) : RT (EDG RB A rx) (rx s) (rx u) :=
  h (fun x => RT (EDG RB A rx) (rx s) (rx x)) (RT.refl _) (fun x y hx e => hx.trans (RT.one ⟨y, (hG x y (hA x (hZ x e.2.1).1)).mp e.1, (hZ y e.2.2).1, rfl⟩))
theorem eus_rt {f : Nat} (h : EUS G Z (fun x => Z x ∧ Fs f x) t) : Z t ∧ ∃ u, RT (EZR G Z) t u ∧ Z u ∧ Fs f u := by
  refine h (fun x => Z x ∧ ∃ u, RT (EZR G Z) x u ∧ Z u ∧ Fs f u) (fun x hx => ⟨hx.1, x, RT.refl x, hx.1, hx.2⟩) (fun x y hx hg hS => ?_)
  obtain ⟨s1, u, s2, s3, s4⟩ := hS
  exact ⟨hx, u, (RT.one ⟨hg, hx, s1⟩).trans s2, s3, s4⟩
theorem gdr_of (hG : ∀ s t, s < T → (G s t ↔ RB (rx s) t)) (hA : ∀ s, A s → s < T) (hZ : EGZ G nf Fs A Z) : ∀ k s, ctn (RT (EZR G Z) s) T < k → Z s → GDR RB A rx (fun _ => False) True nf Fs (rx s)
  | 0, _, hk, _ => absurd hk (Nat.not_lt_zero _)
  | k + 1, s, hk, hs => by
    have hsT := hA s (hZ s hs).1
    by_cases hc : ∀ u, RT (EZR G Z) s u → RT (EZR G Z) u s
    · refine GDR.ring ⟨trivial, ?_, fun f hf => ?_⟩
      · obtain ⟨t, g1, g2⟩ := (hZ s hs).2.1
        have e : RT (EZR G Z) s t := RT.one ⟨g1, hs, g2⟩
        exact ⟨rx t, ⟨t, (hG s t hsT).mp g1, (hZ t g2).1, rfl⟩, ezr_rows hG hA hZ (hc t e)⟩
      · obtain ⟨t, g1, g2⟩ := (hZ s hs).2.2 f hf
        obtain ⟨ht, u, u1, u2, u3⟩ := eus_rt g2
        have e1 : RT (EZR G Z) s t := RT.one ⟨g1, hs, ht⟩
        have e : RT (EZR G Z) s u := e1.trans u1
        rcases u1.last with e2 | ⟨y, y1, y2⟩
        · exact ⟨rx s, u, RT.refl _, (hG s u hsT).mp (by rw [← e2]; exact g1), (hZ u u2).1, u3, ezr_rows hG hA hZ (hc u e)⟩
        · exact ⟨rx y, u, ezr_rows hG hA hZ (e1.trans y1), (hG y u (hA y (hZ y y2.2.1).1)).mp y2.1, (hZ u u2).1, u3, ezr_rows hG hA hZ (hc u e)⟩
    · obtain ⟨u, hu⟩ := Classical.not_forall.mp hc
      obtain ⟨h1, h2⟩ := Classical.not_imp.mp hu
      have hZu : Z u := h1 (fun x => Z x) hs (fun x y _ e => e.2.2)
      have hlt := ctn_lt (P := RT (EZR G Z) u) (Q := RT (EZR G Z) s) (fun x hx => h1.trans hx) h2 (RT.refl s) T hsT
      exact GDR.back (gdr_of hG hA hZ k u (by omega) hZu) (ezr_rows hG hA hZ h1)
/-- what leads to a fair ring of rows: what has a fair path -/
theorem gdr_egs (hG : ∀ s t, s < T → (G s t ↔ RB (rx s) t)) (hA : ∀ s, A s → s < T) (hs : A s) : GDR RB A rx (fun _ => False) True nf Fs (rx s) ↔ EGS G nf Fs A s := ⟨fun h => egs_of hG hA h s hs rfl, fun ⟨_, hZ, h⟩ => gdr_of hG hA hZ _ s (Nat.lt_succ_self _) h⟩
theorem gdr_ed {e1 e2 : Prop} (h : e1 ↔ e2) : GDR RB A rx g0 e1 nf Fs r ↔ GDR RB A rx g0 e2 nf Fs r := by
  rw [show e1 = e2 from propext h]
/-- what leads to the goal through rows: what leads there through STATES -/
theorem eus_iff {ed : Prop} (hed : ¬ ed) (hG : ∀ s t, s < T → (G s t ↔ RB (rx s) t)) (hp : ∀ s, p s → s < T) (hA : ∀ s, A s ↔ p s ∧ ¬ g0 s) : (g0 s ∨ (A s ∧ GDR RB A rx g0 ed nf Fs (rx s))) ↔ EUS G p g0 s := by
  constructor
  · intro h
    rcases h with h | ⟨h1, h2⟩
    · exact EUS.base h
    · refine h2 (fun r => ∀ u, p u → rx u = r → EUS G p g0 u) (fun x t hx ht u hu hr => ?_) (fun x hx => absurd hx.1 hed) (fun x y e hS u hu hr => ?_) s ((hA s).mp h1).1 rfl
      · exact EUS.step hu ((hG u t (hp u hu)).mpr (by rw [hr]; exact hx)) (EUS.base ht)
      · obtain ⟨t, t1, t2, t3⟩ := e
        exact EUS.step hu ((hG u t (hp u hu)).mpr (by rw [hr]; exact t1)) (hS t ((hA t).mp t2).1 t3)
  · intro h
    refine h (fun x => g0 x ∨ (A x ∧ GDR RB A rx g0 ed nf Fs (rx x))) (fun x hx => Or.inl hx) (fun x y hx hg hS => ?_)
    by_cases hx0 : g0 x
    · exact Or.inl hx0
    · have hr : RB (rx x) y := (hG x y (hp x hx)).mp hg
      refine Or.inr ⟨(hA x).mpr ⟨hx, hx0⟩, ?_⟩
      rcases hS with z | ⟨z1, z2⟩
      · exact GDR.lead hr z
      · exact GDR.back z2 (RT.one ⟨y, hr, z1, rfl⟩)
end FairSets2
/-- what an operator of a SPEC makes of two sets: E the STATES, Fr the FAIR ones -/
def ctl (G : Nat → Nat → Prop) (E Fr : Nat → Prop) (nf : Nat) (Fs : Nat → Nat → Prop) (o : Nat) (A B : Nat → Prop) (s : Nat) : Prop :=
  if o = 4 then (A s ↔ B s) else if o = 5 then (A s → B s) else if o = 6 then (A s ∨ B s) else if o = 7 then ¬ (A s ↔ B s) else if o = 8 then (A s ∧ B s) else if o = 9 then ¬ A s
  else if o = 10 then ∃ t, G s t ∧ A t ∧ Fr t
  else if o = 11 then EUS G E (fun t => (E t ∧ A t) ∧ Fr t) s
  else if o = 12 then EGS G nf Fs (fun t => E t ∧ A t) s
  else if o = 13 then ¬ ∃ t, G s t ∧ ¬ A t ∧ Fr t
  else if o = 14 then ¬ EGS G nf Fs (fun t => E t ∧ ¬ A t) s
  else if o = 15 then ¬ EUS G E (fun t => (E t ∧ ¬ A t) ∧ Fr t) s
  else if o = 28 then EUS G (fun t => E t ∧ A t) (fun t => (E t ∧ B t) ∧ Fr t) s
  else ¬ (EUS G (fun t => E t ∧ ¬ B t) (fun t => ((E t ∧ ¬ B t) ∧ ¬ A t) ∧ Fr t) s ∨ EGS G nf Fs (fun t => E t ∧ ¬ B t) s)
section CtlSame
variable {G Fs : Nat → Nat → Prop} {E Fr A B A' B' : Nat → Prop} {nf o s : Nat}
/-- only what its parts are in the STATES counts -/
theorem ctl_congr (hGE : ∀ s t, G s t → E t) (hs : E s) (hA : ∀ t, E t → (A t ↔ A' t)) (hB : ∀ t, E t → (B t ↔ B' t)) : ctl G E Fr nf Fs o A B s ↔ ctl G E Fr nf Fs o A' B' s := by
  have eA := hA s hs
  have eB := hB s hs
  have cA : ∀ t, (E t ∧ A t) ↔ (E t ∧ A' t) := fun t => ⟨fun y => ⟨y.1, (hA t y.1).mp y.2⟩, fun y => ⟨y.1, (hA t y.1).mpr y.2⟩⟩
  have nA : ∀ t, (E t ∧ ¬ A t) ↔ (E t ∧ ¬ A' t) := fun t => ⟨fun y => ⟨y.1, fun z => y.2 ((hA t y.1).mpr z)⟩, fun y => ⟨y.1, fun z => y.2 ((hA t y.1).mp z)⟩⟩
  have cB : ∀ t, (E t ∧ B t) ↔ (E t ∧ B' t) := fun t => ⟨fun y => ⟨y.1, (hB t y.1).mp y.2⟩, fun y => ⟨y.1, (hB t y.1).mpr y.2⟩⟩
  have nB : ∀ t, (E t ∧ ¬ B t) ↔ (E t ∧ ¬ B' t) := fun t => ⟨fun y => ⟨y.1, fun z => y.2 ((hB t y.1).mpr z)⟩, fun y => ⟨y.1, fun z => y.2 ((hB t y.1).mp z)⟩⟩
  have bA : (∃ t, G s t ∧ A t ∧ Fr t) ↔ ∃ t, G s t ∧ A' t ∧ Fr t := ⟨fun ⟨t, y1, y2, y3⟩ => ⟨t, y1, (hA t (hGE s t y1)).mp y2, y3⟩, fun ⟨t, y1, y2, y3⟩ => ⟨t, y1, (hA t (hGE s t y1)).mpr y2, y3⟩⟩
  have bN : (∃ t, G s t ∧ ¬ A t ∧ Fr t) ↔ ∃ t, G s t ∧ ¬ A' t ∧ Fr t := ⟨fun ⟨t, y1, y2, y3⟩ => ⟨t, y1, fun z => y2 ((hA t (hGE s t y1)).mpr z), y3⟩, fun ⟨t, y1, y2, y3⟩ => ⟨t, y1, fun z => y2 ((hA t (hGE s t y1)).mp z), y3⟩⟩
  unfold ctl
  by_cases h4 : o = 4
  · rw [if_pos h4, if_pos h4, eA, eB]
  rw [if_neg h4, if_neg h4]
  by_cases h5 : o = 5
  · rw [if_pos h5, if_pos h5, eA, eB]
  rw [if_neg h5, if_neg h5]
  by_cases h6 : o = 6
  · rw [if_pos h6, if_pos h6, eA, eB]
  rw [if_neg h6, if_neg h6]
  by_cases h7 : o = 7
  · rw [if_pos h7, if_pos h7, eA, eB]
  rw [if_neg h7, if_neg h7]
  by_cases h8 : o = 8
  · rw [if_pos h8, if_pos h8, eA, eB]
  rw [if_neg h8, if_neg h8]
  by_cases h9 : o = 9
  · rw [if_pos h9, if_pos h9, eA]
  rw [if_neg h9, if_neg h9]
  by_cases h10 : o = 10
  · rw [if_pos h10, if_pos h10]; exact bA
  rw [if_neg h10, if_neg h10]
  by_cases h11 : o = 11
  · rw [if_pos h11, if_pos h11]; exact EUS.congr (fun _ => Iff.rfl) (fun t => and_congr (cA t) Iff.rfl)
  rw [if_neg h11, if_neg h11]
  by_cases h12 : o = 12
  · rw [if_pos h12, if_pos h12]; exact EGS.congr cA
  rw [if_neg h12, if_neg h12]
  by_cases h13 : o = 13
  · rw [if_pos h13, if_pos h13]; exact not_congr bN
  rw [if_neg h13, if_neg h13]
  by_cases h14 : o = 14
  · rw [if_pos h14, if_pos h14]; exact not_congr (EGS.congr nA)
  rw [if_neg h14, if_neg h14]
  by_cases h15 : o = 15
  · rw [if_pos h15, if_pos h15]; exact not_congr (EUS.congr (fun _ => Iff.rfl) (fun t => and_congr (nA t) Iff.rfl))
  rw [if_neg h15, if_neg h15]
  by_cases h28 : o = 28
  · rw [if_pos h28, if_pos h28]; exact EUS.congr cA (fun t => and_congr (cB t) Iff.rfl)
  rw [if_neg h28, if_neg h28]
  refine not_congr (or_congr (EUS.congr nB (fun t => ?_)) (EGS.congr nB))
  exact ⟨fun y => ⟨⟨(nB t).mp y.1.1, ((nA t).mp ⟨y.1.1.1, y.1.2⟩).2⟩, y.2⟩, fun y => ⟨⟨(nB t).mpr y.1.1, ((nA t).mpr ⟨y.1.1.1, y.1.2⟩).2⟩, y.2⟩⟩
end CtlSame
