/-! FAIRNESS does not hang on how its sets are kept -/
section FairSame
variable {G Fs Fs' : Nat → Nat → Prop} {E Fr p A B : Nat → Prop} {nf nf' s a n k o : Nat} {Y : Ts} {lv : Nat → Nat → Int32}
theorem egz_fair {Z : Nat → Prop} (h2 : ∀ g, g < nf' → ∃ f, f < nf ∧ ∀ s, Fs f s ↔ Fs' g s) (h : EGZ G nf Fs p Z) : EGZ G nf' Fs' p Z := fun z hz => by
  obtain ⟨y1, y2, y3⟩ := h z hz
  refine ⟨y1, y2, fun g hg => ?_⟩
  obtain ⟨f, hf, e⟩ := h2 g hg
  obtain ⟨t, t1, t2⟩ := y3 f hf
  exact ⟨t, t1, t2.mono (fun _ y => y) (fun x y => ⟨y.1, (e x).mp y.2⟩)⟩
theorem egs_fair (h1 : ∀ f, f < nf → ∃ g, g < nf' ∧ ∀ s, Fs f s ↔ Fs' g s) (h2 : ∀ g, g < nf' → ∃ f, f < nf ∧ ∀ s, Fs f s ↔ Fs' g s) : EGS G nf Fs = EGS G nf' Fs' := funext fun p => funext fun s => propext ⟨fun ⟨Z, z1, z2⟩ => ⟨Z, egz_fair h2 z1, z2⟩, fun ⟨Z, z1, z2⟩ => ⟨Z, egz_fair (fun f hf => by obtain ⟨g, g1, g2⟩ := h1 f hf; exact ⟨g, g1, fun s => (g2 s).symm⟩) z1, z2⟩⟩
theorem ctl_fair (e : EGS G nf Fs = EGS G nf' Fs') : ctl G E Fr nf Fs o A B s ↔ ctl G E Fr nf' Fs' o A B s := by
  unfold ctl
  rw [e]
theorem cts_fair (e : EGS G nf Fs = EGS G nf' Fs') : ∀ n, CTS Y G E Fr nf Fs lv a n = CTS Y G E Fr nf' Fs' lv a n
  | 0 => rfl
  | n + 1 => by
    have ih := cts_fair e n
    funext k s
    show (if k = bse Y a n then ((TMZ Y a (n + 1) k ∧ ctl G E Fr nf Fs (oc Y (a + n)) (CTS Y G E Fr nf Fs lv a n (bse Y a n)) (CTS Y G E Fr nf Fs lv a n (tpz Y a n - 1)) s) ∨ (¬ TMZ Y a (n + 1) k ∧ svz Y (lv s) a (n + 1) k = 1)) else CTS Y G E Fr nf Fs lv a n k s) = (if k = bse Y a n then ((TMZ Y a (n + 1) k ∧ ctl G E Fr nf' Fs' (oc Y (a + n)) (CTS Y G E Fr nf' Fs' lv a n (bse Y a n)) (CTS Y G E Fr nf' Fs' lv a n (tpz Y a n - 1)) s) ∨ (¬ TMZ Y a (n + 1) k ∧ svz Y (lv s) a (n + 1) k = 1)) else CTS Y G E Fr nf' Fs' lv a n k s)
    rw [ih, propext (ctl_fair (E := E) (Fr := Fr) (o := oc Y (a + n)) (A := CTS Y G E Fr nf' Fs' lv a n (bse Y a n)) (B := CTS Y G E Fr nf' Fs' lv a n (tpz Y a n - 1)) (s := s) e)]
end FairSame
