/-! The heights that are reckoned are how high expressions are -/
theorem mu_max_nn {a b : Nat} (ha : a < 2147483648) (hb : b < 2147483648) : ∃ m, mu_max (nI a) (nI b) = nI m ∧ a ≤ m ∧ b ≤ m ∧ (m = a ∨ m = b) := by
  unfold mu_max
  by_cases e : nI a < nI b
  · rw [if_pos e]
    have := nI_below ha hb e
    exact ⟨b, rfl, by omega, by omega, Or.inr rfl⟩
  · rw [if_neg e]
    have : ¬ a < b := fun z => e (nI_lt z (by omega))
    exact ⟨a, rfl, by omega, by omega, Or.inl rfl⟩
theorem nI_le120 {h : Nat} (hh : h < 2147483648) (h2 : ¬ (120 : Int32) < nI h) : h ≤ 120 := by
  by_cases e : h ≤ 120
  · exact e
  · exact absurd (show nI 120 < nI h from nI_lt (by omega) (by omega)) h2
theorem hgl_n {c : Tre} {f : Nat → Int32} {g : Nat → Nat} {X : Nat} (hX : X < 2147483648) : ∀ m a, (∀ k, k < m → f k = nI (g k) ∧ g k + m ≤ X) → a + m ≤ X → ∃ r, hgl c f m (nI a) = nI r ∧ a ≤ r ∧ (∀ k, k < m → g k ≤ r) ∧ r ≤ X
  | 0, a, _, ha => ⟨a, rfl, Nat.le_refl _, fun k hk => absurd hk (Nat.not_lt_zero _), ha⟩
  | m + 1, a, hf, ha => by
    have q := hf m (Nat.lt_succ_self _)
    obtain ⟨b, b1, b2, b3, b4⟩ := mu_max_nn (a := a) (b := g m) (by omega) (by omega)
    have sp : ∃ a', hst c m (nI a) (f m) = nI a' ∧ b ≤ a' ∧ a' ≤ b + 1 := by
      unfold hst
      rw [q.1, b1]
      split
      · exact ⟨b + 1, nI_add _ _, by omega, by omega⟩
      · exact ⟨b, rfl, by omega, by omega⟩
    obtain ⟨a', s1, s2, s3⟩ := sp
    obtain ⟨r, r1, r2, r3, r4⟩ := hgl_n (c := c) (f := f) (g := g) hX m a' (fun k hk => ⟨(hf k (by omega)).1, by have := (hf k (by omega)).2; omega⟩) (by omega)
    refine ⟨r, ?_, by omega, fun k hk => ?_, r4⟩
    · show hgl c f m (hst c m (nI a) (f m)) = _
      rw [s1]
      exact r1
    · by_cases e : k = m
      · subst e; omega
      · exact r3 k (by omega)
theorem hcl_n {f : Nat → Int32} {g : Nat → Nat} {X : Nat} (hX : X < 2147483648) : ∀ m k a, (∀ i, k ≤ i → i < k + m → f i = nI (g i) ∧ g i ≤ X) → a ≤ X → ∃ r, hcl f m k (nI a) = nI r ∧ a ≤ r ∧ (∀ i, k ≤ i → i < k + m → g i ≤ r) ∧ r ≤ X
  | 0, k, a, _, ha => ⟨a, rfl, Nat.le_refl _, fun i h1 h2 => by omega, ha⟩
  | m + 1, k, a, hf, ha => by
    have q := hf k (Nat.le_refl _) (by omega)
    obtain ⟨b, b1, b2, b3, b4⟩ := mu_max_nn (a := a) (b := g k) (by omega) (by omega)
    obtain ⟨r, r1, r2, r3, r4⟩ := hcl_n (f := f) (g := g) hX m (k + 1) b (fun i h1 h2 => hf i (by omega) (by omega)) (by omega)
    refine ⟨r, ?_, by omega, fun i h1 h2 => ?_, r4⟩
    · show hcl f m (k + 1) (mu_max (nI a) (f k)) = _
      rw [q.1, b1]
      exact r1
    · by_cases e : i = k
      · subst e; omega
      · exact r3 i (by omega) (by omega)
/-- what is known of the height of what stands for a name -/
def hkn (D : MD) (hs : Nat → Int32) (t : Nat) : Prop := ∃ h, hs t = nI h ∧ h ≤ 120 ∧ hlx D h (own D t) (stdt D t)
theorem nd.lq {Hb : mu_H} {G : Nat → Prop} {dd q l k : Nat} {c : Tre} (h : nd Hb G dd q c) (hx : exw (l + 1) c) (hk : k < tsn c) : ∃ y e, nd Hb G e y (lkp c k) := by
  obtain ⟨_, _, _, _, _, a, _, _, _, _, w, _⟩ := h.rd
  obtain ⟨y, _, hy⟩ := w k hk
  unfold lkp
  by_cases e : tkd c = 66 ∧ 0 < k
  · rw [if_pos e]
    have q1 := (hx.lk hk).2 e.1 e.2
    obtain ⟨_, _, _, _, _, a2, _, _, _, _, w2, _⟩ := hy.rd
    obtain ⟨y2, _, hy2⟩ := w2 0 (by rw [q1]; decide)
    exact ⟨y2, _, hy2⟩
  · rw [if_neg e]
    exact ⟨y, _, hy⟩
section Hgx
variable {Hb : mu_H} {D : MD} {hs : Nat → Int32}
theorem hgt_hlx (hb : mdb D) {j : Nat} (hj : j < D.n) : ∀ {l : Nat} {c : Tre} {q dd : Nat}, nd Hb D.G dd q c → exw l c → nmk D j c → (∀ t, usk D j c t → hkn D hs t) → l ≤ 905 → ∃ h, hgt D j hs l c = nI h ∧ hlx D h j c ∧ h ≤ 121 + l * 2097153
  | 0, _, _, _, _, hx, _, _, _ => hx.elim
  | l + 1, c, q, dd, hn, hx, hk, hu, hl => by
    have n4 := hb.2.1
    by_cases e33 : tkd c = 33
    · have t0 : tsn c = 0 := (hx.toN.1 (by rw [e33]; decide)).2
      refine ⟨1, by rw [hgt, if_pos e33]; rfl, ⟨fun x t e => ?_, fun k hk => ?_⟩, by omega⟩
      · rw [e33] at e; exact absurd e (by decide)
      · rw [t0] at hk; exact absurd hk (Nat.not_lt_zero _)
    by_cases e64 : tkd c = 64
    · have mk : tkd c ∈ [64, 33] := by rw [e64]; decide
      have t0 : tsn c = 0 := (hx.toN.1 mk).2
      have nf := hk.f mk
      obtain ⟨x, hf⟩ : ∃ x, fno D j (tns c) = some x := by
        cases e : fno D j (tns c) with
        | none => exact absurd e nf
        | some x => exact ⟨x, rfl⟩
      have em : hgt D j hs (l + 1) c = if x.2.2 < 0 then 1 else 1 + hs x.2.2.toNatClampNeg := by rw [hgt, if_neg e33, if_pos e64, hf]
      have fb := fno_b (a := x.1) (y := x.2.1) (s := x.2.2) hb hj hf
      by_cases e0 : x.2.2 < 0
      · rw [if_pos e0] at em
        refine ⟨1, by rw [em]; rfl, ⟨fun x' t _ e1 e2 e3 => ?_, fun k hk => ?_⟩, by omega⟩
        · rw [hf] at e1
          cases e1
          rw [e2] at e0
          exact absurd e0 (nI_nn (by omega))
        · rw [t0] at hk; exact absurd hk (Nat.not_lt_zero _)
      · obtain ⟨t, ht, et⟩ := fb.2.2.1.resolve_left (fun e => e0 (by rw [e]; decide))
        obtain ⟨h, h1, h2, h3⟩ := hu t ⟨1, Or.inl ⟨mk, x, hf, et, ht⟩⟩
        have ct : (nI t).toNatClampNeg = t := nI_clamp (by omega)
        rw [if_neg e0, et, ct, h1] at em
        refine ⟨1 + h, by rw [em]; exact nI_add 1 h, ?_, by omega⟩
        rw [Nat.add_comm]
        refine ⟨fun x' t' _ e1 e2 e3 => ?_, fun k hk => ?_⟩
        · rw [hf] at e1
          cases e1
          have ct' : (nI t').toNatClampNeg = t' := nI_clamp (by omega)
          have : t' = t := by rw [← ct', ← e2, et, ct]
          subst this
          exact h3
        · rw [t0] at hk; exact absurd hk (Nat.not_lt_zero _)
    have em : hgt D j hs (l + 1) c = 1 + hgl c (fun k => hgt D j hs l (lkp c k)) (tsn c) 0 := by rw [hgt, if_neg e33, if_neg e64]
    have ch : ∀ k, ∃ h, k < tsn c → hgt D j hs l (lkp c k) = nI h ∧ hlx D h j (lkp c k) ∧ h ≤ 121 + l * 2097153 := by
      intro k
      by_cases kt : k < tsn c
      · obtain ⟨y, e, hy⟩ := hn.lq hx kt
        obtain ⟨h, z⟩ := hgt_hlx hb hj hy (hx.lk kt).1 (hk.p hx kt) (fun t ht => hu t (ht.p hx kt)) (by omega)
        exact ⟨h, fun _ => z⟩
      · exact ⟨0, fun z => absurd z kt⟩
    obtain ⟨g, hg⟩ := Classical.axiomOfChoice ch
    have s26 := hn.s26
    obtain ⟨r, r1, r2, r3, r4⟩ := hgl_n (c := c) (f := fun k => hgt D j hs l (lkp c k)) (g := g) (X := 121 + l * 2097153 + 2097152) (by omega) (tsn c) 0 (fun k kt => ⟨(hg k kt).1, by have := (hg k kt).2.2; omega⟩) (by omega)
    refine ⟨1 + r, ?_, ?_, by omega⟩
    · rw [em]
      show 1 + hgl c (fun k => hgt D j hs l (lkp c k)) (tsn c) (nI 0) = _
      rw [r1]
      exact nI_add 1 r
    · rw [Nat.add_comm]
      exact ⟨fun x t e => absurd e e64, fun k kt => (hg k kt).2.1.le (r3 k kt)⟩
theorem hgc_hlc (hb : mdb D) {j : Nat} (hj : j < D.n) : ∀ {l : Nat} {c : Tre} {q dd : Nat}, nd Hb D.G dd q c → chw l c → nmk D j c → (∀ t, usk D j c t → hkn D hs t) → l ≤ 905 → ∃ h, hgc D j hs l c = nI h ∧ (h ≤ 120 → hlc D j l c) ∧ h ≤ 121 + l * 2097153
  | 0, _, _, _, _, hx, _, _, _ => hx.elim
  | l + 1, c, q, dd, hn, hx, hk, hu, hl => by
    by_cases ec : tkd c = 10 ∨ tkd c = 52
    · have em : hgc D j hs (l + 1) c = 1 + hcl (fun k => if tkd c = 52 ∧ k % 2 = 1 then hgc D j hs l (tkk c k) else hgt D j hs l (tkk c k)) (tsn c) 0 0 := by rw [hgc, if_pos ec]
      have n6 : ¬ tkd c ∈ [64, 33] := fun z => by rcases ec with e | e <;> (rw [e] at z; exact absurd z (by decide))
      have ch : ∀ k, ∃ h, k < tsn c → (if tkd c = 52 ∧ k % 2 = 1 then hgc D j hs l (tkk c k) else hgt D j hs l (tkk c k)) = nI h ∧ (h ≤ 120 → (¬ (tkd c = 52 ∧ k % 2 = 1) → hlx D 120 j (tkk c k)) ∧ (tkd c = 52 ∧ k % 2 = 1 → hlc D j l (tkk c k))) ∧ h ≤ 121 + l * 2097153 := by
        intro k
        by_cases kt : k < tsn c
        · obtain ⟨_, _, _, _, _, a, _, _, _, _, w, _⟩ := hn.rd
          obtain ⟨y, _, hy⟩ := w k kt
          by_cases e : tkd c = 52 ∧ k % 2 = 1
          · obtain ⟨h, z1, z2, z3⟩ := hgc_hlc hb hj hy ((hx.pt kt ec).2 e) (hk.k kt) (fun t ht => hu t (ht.kk kt n6)) (by omega)
            exact ⟨h, fun _ => ⟨by rw [if_pos e]; exact z1, fun y => ⟨fun n => absurd e n, fun _ => z2 y⟩, z3⟩⟩
          · obtain ⟨h, z1, z2, z3⟩ := hgt_hlx hb hj hy ((hx.pt kt ec).1 e) (hk.k kt) (fun t ht => hu t (ht.kk kt n6)) (by omega)
            exact ⟨h, fun _ => ⟨by rw [if_neg e]; exact z1, fun y => ⟨fun _ => z2.le y, fun n => absurd n e⟩, z3⟩⟩
        · exact ⟨0, fun z => absurd z kt⟩
      obtain ⟨g, hg⟩ := Classical.axiomOfChoice ch
      obtain ⟨r, r1, r2, r3, r4⟩ := hcl_n (f := fun k => if tkd c = 52 ∧ k % 2 = 1 then hgc D j hs l (tkk c k) else hgt D j hs l (tkk c k)) (g := g) (X := 121 + l * 2097153) (by omega) (tsn c) 0 0 (fun k _ kt => ⟨(hg k (by omega)).1, (hg k (by omega)).2.2⟩) (by omega)
      refine ⟨1 + r, ?_, fun z => ?_, by omega⟩
      · rw [em]
        show 1 + hcl _ (tsn c) 0 (nI 0) = _
        rw [r1]
        exact nI_add 1 r
      · have w : ∀ k, k < tsn c → g k ≤ 120 := fun k kt => by have := r3 k (Nat.zero_le _) (by omega); omega
        refine ⟨fun e k kt => ((hg k kt).2.1 (w k kt)).1 (fun n => by rw [e] at n; exact absurd n.1 (by decide)), fun e k kt => ⟨fun e2 => ((hg k kt).2.1 (w k kt)).1 (fun n => by omega), fun e2 => ((hg k kt).2.1 (w k kt)).2 ⟨e, e2⟩⟩, fun e1 e2 => absurd ec (fun n => n.elim e1 e2)⟩
    · have em : hgc D j hs (l + 1) c = hgt D j hs (l + 1) c := by rw [hgc, if_neg ec]
      obtain ⟨h, z1, z2, z3⟩ := hgt_hlx hb hj hn (hx.no ec) hk hu hl
      exact ⟨h, by rw [em]; exact z1, fun z => ⟨fun e => absurd (Or.inl e) ec, fun e => absurd (Or.inr e) ec, fun _ _ => z2.le z⟩, z3⟩
/-- all that stands for names, in the order -/
theorem hkn_ord {l : Nat} {ol : Nat → Nat} (hb : mdb D) (hx : mdx2 D) (hl : 1810 ≤ l) (ho : ordz D l ol) (hnd : ∀ s, s < (D.pr 0).length → ∃ q dd, nd Hb D.G dd q (stdt D s)) (h1 : hsol D hs) (h2 : hok D hs) : ∀ a, a ≤ (D.pr 0).length → ∀ b, b < a → hkn D hs (ol b)
  | 0, _, b, h => absurd h (Nat.not_lt_zero _)
  | a + 1, ha, b, hba => by
    have ih := hkn_ord hb hx hl ho hnd h1 h2 a (by omega)
    by_cases e : b = a
    · subst e
      have q := ho.1 b (by omega)
      obtain ⟨y, dd, hy⟩ := hnd _ q.1
      obtain ⟨h, z1, z2, z3⟩ := hgt_hlx (hs := hs) hb (hx _ q.1).2 hy (hx _ q.1).1 ⟨l, q.2.1⟩ (fun t ht => by
        obtain ⟨i, i1, i2⟩ := ho.us hx hl (by omega) ht
        rw [← i2]
        exact ih i i1) (Nat.le_refl _)
      have e1 := h1 _ q.1
      rw [z1] at e1
      have e2 := h2.1 _ q.1
      rw [e1] at e2
      exact ⟨h, e1, nI_le120 (by omega) e2, z2⟩
    · exact ih b (by omega)
theorem hkn_all {l : Nat} {ol : Nat → Nat} (hb : mdb D) (hx : mdx2 D) (hl : 1810 ≤ l) (ho : ordz D l ol) (hnd : ∀ s, s < (D.pr 0).length → ∃ q dd, nd Hb D.G dd q (stdt D s)) (h1 : hsol D hs) (h2 : hok D hs) : ∀ t, t < (D.pr 0).length → hkn D hs t := fun t ht => by
  obtain ⟨a, a1, a2⟩ := ho.2 t ht
  rw [← a2]
  exact hkn_ord hb hx hl ho hnd h1 h2 _ (Nat.le_refl _) a a1
/-- an expression that is low -/
theorem hlx_of {j q dd : Nat} {c : Tre} (hb : mdb D) (hj : j < D.n) (hK : ∀ t, t < (D.pr 0).length → hkn D hs t) (hn : nd Hb D.G dd q c) (hx : exw 905 c) (hk : nmk D j c) (h : ¬ 120 < hgt D j hs 905 c) : hlx D 120 j c := by
  obtain ⟨h', z1, z2, z3⟩ := hgt_hlx (hs := hs) hb hj hn hx hk (fun t ht => hK t (by obtain ⟨m, ht⟩ := ht; exact usz_lt ht)) (Nat.le_refl _)
  rw [z1] at h
  exact z2.le (nI_le120 (by omega) h)
theorem hlc_of {j q dd : Nat} {c : Tre} (hb : mdb D) (hj : j < D.n) (hK : ∀ t, t < (D.pr 0).length → hkn D hs t) (hn : nd Hb D.G dd q c) (hx : chw 905 c) (hk : nmk D j c) (h : ¬ 120 < hgc D j hs 905 c) : hlc D j 905 c := by
  obtain ⟨h', z1, z2, z3⟩ := hgc_hlc (hs := hs) hb hj hn hx hk (fun t ht => hK t (by obtain ⟨m, ht⟩ := ht; exact usz_lt ht)) (Nat.le_refl _)
  rw [z1] at h
  exact z2 (nI_le120 (by omega) h)
end Hgx
