/-! The reference: sorts that fit together -/
section Srt
variable {D : MD} {j l k : Nat} {c : Tre} {ss ss' : Nat → Int32} {ol : Nat → Nat} {wh wt : Int32}
theorem csl_cg {f g : Nat → Option Int32} : ∀ m k cm, (∀ i, k ≤ i → i < k + m → f i = g i) → csl f m k cm = csl g m k cm
  | 0, _, _, _ => rfl
  | m + 1, k, cm, e => by
    rw [csl, csl, e k (Nat.le_refl _) (by omega)]
    cases g k with
    | none => rfl
    | some s =>
      dsimp only
      rw [csl_cg m (k + 1) _ (fun i h1 h2 => e i (by omega) (by omega))]
theorem cnl_cg {f g : Nat → Option Int32} {cm : Int32} : ∀ m k, (∀ i, k ≤ i → i < k + m → f i = g i) → cnl f cm m k = cnl g cm m k
  | 0, _, _ => rfl
  | m + 1, k, e => by
    rw [cnl, cnl, e k (Nat.le_refl _) (by omega)]
    cases g k with
    | none => rfl
    | some s =>
      dsimp only
      rw [cnl_cg m (k + 1) (fun i h1 h2 => e i (by omega) (by omega))]
theorem gnl_cg {f g : Nat → Option Int32} {al : Int32} : ∀ m k cm, (∀ i, k ≤ i → i < k + m → f i = g i) → gnl f al m k cm = gnl g al m k cm
  | 0, _, _, _ => rfl
  | m + 1, k, cm, e => by
    rw [gnl, gnl, e k (Nat.le_refl _) (by omega)]
    cases g k with
    | none => rfl
    | some s =>
      dsimp only
      rw [gnl_cg m (k + 1) _ (fun i h1 h2 => e i (by omega) (by omega))]
theorem lkp_n (h : ¬ tkd c = 66) : lkp c k = tkk c k := if_neg (fun z => h z.1)
theorem lkp_0 : lkp c 0 = tkk c 0 := if_neg (fun z => absurd z.2 (Nat.lt_irrefl _))
/-- sorts look at what is used alone -/
theorem srt_cg (hb : mdb D) (hj : j < D.n) : ∀ {l : Nat} {pl : Int32} {c : Tre}, exw l c → (∀ t, usk D j c t → ss t = ss' t) → srt D j ss wh l pl c = srt D j ss' wh l pl c
  | 0, _, _, h, _ => h.elim
  | l + 1, pl, c, h, e => by
    have ih : ∀ pl2 k, k < tsn c → srt D j ss wh l pl2 (lkp c k) = srt D j ss' wh l pl2 (lkp c k) := fun pl2 k hk => srt_cg hb hj (h.lk hk).1 (fun t ht => e t (ht.p h hk))
    by_cases e1 : tkd c = 63
    · rw [srt, srt, if_pos e1, if_pos e1]
    by_cases e2 : tkd c = 54 ∨ tkd c = 55
    · rw [srt, srt, if_neg e1, if_neg e1, if_pos e2, if_pos e2]
    by_cases e3 : tkd c = 64
    · rw [srt, srt, if_neg e1, if_neg e1, if_neg e2, if_neg e2, if_pos e3, if_pos e3]
      have nk : tkd c ∈ [64, 33] := by rw [e3]; decide
      cases f : fno D j (tns c) with
      | none => rfl
      | some x =>
        obtain ⟨a, y, s⟩ := x
        dsimp only
        by_cases g1 : a < 0
        · rw [if_pos g1, if_pos g1]
          by_cases g2 : y < 0
          · rw [if_pos g2, if_pos g2]
            have fb := fno_b hb hj f
            have s0 : ¬ s < 0 := fb.2.2.2.elim (fun z => absurd g1 z) (fun z => z.elim (fun z => absurd g2 z) id)
            obtain ⟨v, v1, v2⟩ := fb.2.2.1.resolve_left (fun z => s0 (by rw [z]; decide))
            subst v2
            have b4 := hb.2.1
            rw [nI_clamp (by omega), e v ⟨1, Or.inl ⟨nk, _, f, rfl, v1⟩⟩]
          · rw [if_neg g2, if_neg g2]
        · rw [if_neg g1, if_neg g1]
    by_cases e4 : tkd c = 33
    · rw [srt, srt, if_neg e1, if_neg e1, if_neg e2, if_neg e2, if_neg e3, if_neg e3, if_pos e4, if_pos e4]
    rw [srt_2 e1 e2 e3 e4, srt_2 e1 e2 e3 e4]
    have z : sr2 D j ss wh l pl c = sr2 D j ss' wh l pl c := by
      by_cases g1 : tkd c = 52
      · rw [sr2, sr2, if_pos g1, if_pos g1]
        exact csl_cg _ _ _ (fun i _ hi => by have q := ih 1 i (by omega); rw [lkp_n (by rw [g1]; decide)] at q; exact q)
      by_cases g2 : tkd c = 66
      · rw [sr2, sr2, if_neg g1, if_neg g1, if_pos g2, if_pos g2]
        exact cnl_cg _ _ (fun i _ hi => ih _ i (by omega))
      by_cases g3 : tkd c = 65
      · rw [sr2, sr2, if_neg g1, if_neg g1, if_neg g2, if_neg g2, if_pos g3, if_pos g3]
        have q := ih 1 0 (exw_65 h g3)
        rw [lkp_0] at q
        rw [q]
      · rw [sr2, sr2, if_neg g1, if_neg g1, if_neg g2, if_neg g2, if_neg g3, if_neg g3]
        exact gnl_cg _ _ _ (fun i _ hi => by have q := ih (if pl = 0 ∧ ¬ tkd c ∈ [21, 5, 50] ∧ ¬ tkd c ∈ [22, 6, 23, 7] then 0 else 1) i (by omega); rw [lkp_n g2] at q; exact q)
    rw [z]
theorem chzs_cg (hb : mdb D) (hj : j < D.n) (e : ∀ t, t < (D.pr 0).length → ss t = ss' t) : ∀ {l : Nat} {c : Tre}, chw l c → chzs D j ss wt l c → chzs D j ss' wt l c
  | 0, _, h, _ => h.elim
  | l + 1, c, h, hc => by
    have eu : ∀ c t, usk D j c t → ss t = ss' t := fun c t ht => e t (by obtain ⟨_, z⟩ := ht; exact usz_lt z)
    refine ⟨fun k1 k hk => ?_, fun k1 k hk => ⟨fun k2 => ?_, fun k2 => ?_⟩, fun k1 k2 => ?_⟩
    · rw [← srt_cg hb hj ((h.pt hk (Or.inl k1)).1 (fun z => by rw [k1] at z; exact absurd z.1 (by decide))) (eu _)]; exact hc.1 k1 k hk
    · rw [← srt_cg hb hj ((h.pt hk (Or.inr k1)).1 (fun z => by omega)) (eu _)]; exact (hc.2.1 k1 k hk).1 k2
    · exact chzs_cg hb hj e ((h.pt hk (Or.inr k1)).2 ⟨k1, k2⟩) ((hc.2.1 k1 k hk).2 k2)
    · rw [← srt_cg hb hj (h.no (fun z => z.elim k1 k2)) (eu _)]; exact hc.2.2 k1 k2
/-- each sort is that of its expression -/
def ssol (D : MD) (ss : Nat → Int32) : Prop := ∀ s, s < (D.pr 0).length → srt D (own D s) ss 0 905 0 (stdt D s) = some (ss s)
/-- the VARIABLE that is assigned to -/
def avr (D : MD) (j : Nat) (nm : List Int32) : Nat := match fnd (D.md j).2.2 73 nm with
  | none => 0
  | some q => ((D.Iv j).2.2.1 q).toNatClampNeg
def mda (D : MD) : Prop := ∀ j, j < D.n → ∀ k, k < (D.md j).2.2.length → tkd (nth (D.md j).2.2 k) ∈ [32, 33, 75] → ∃ q, fnd (D.md j).2.2 73 (nam (nth (D.md j).2.2 k)) = some q ∧ (D.Iv j).2.2.1 q = nI (avr D j (nam (nth (D.md j).2.2 k))) ∧ avr D j (nam (nth (D.md j).2.2 k)) < (D.pr 1).length
/-- where an expression stands: TRANS 1, SPEC 2 -/
def whr (k : Nat) : Int32 := if k = 36 then 1 else if k = 38 then 2 else 0
/-- a part is sound -/
def soj (D : MD) (ss : Nat → Int32) (j k : Nat) : Prop := (tkd (nth (D.md j).2.2 k) ∈ [32, 33, 75] → chzs D j ss (sof D (avr D j (nam (nth (D.md j).2.2 k)))) 905 (tkk (nth (D.md j).2.2 k) 0)) ∧ (¬ tkd (nth (D.md j).2.2 k) ∈ [32, 33, 75] → ¬ tkd (nth (D.md j).2.2 k) = 73 → ¬ tkd (nth (D.md j).2.2 k) = 74 → srt D j ss (whr (tkd (nth (D.md j).2.2 k))) 905 0 (tkk (nth (D.md j).2.2 k) 0) = some 1)
def srok (D : MD) (ss : Nat → Int32) : Prop := ∀ j, j < D.n → ∀ k, k < (D.md j).2.2.length → soj D ss j k
theorem soj_cg (hb : mdb D) (hj : j < D.n) (hp : ptw (nth (D.md j).2.2 k)) (e : ∀ t, t < (D.pr 0).length → ss t = ss' t) (h : soj D ss j k) : soj D ss' j k := by
  refine ⟨fun ka => chzs_cg hb hj e (ptw_c hp ka) (h.1 ka), fun ka k3 k4 => ?_⟩
  rw [← srt_cg hb hj (ptw_e hp ka k3) (fun t ht => e t (by obtain ⟨_, z⟩ := ht; exact usz_lt z))]
  exact h.2 ka k3 k4
def sen (D : MD) (ol : Nat → Nat) (K : Nat) (ss : Nat → Int32) : Prop := ∀ b, b < K → srt D (own D (ol b)) ss 0 905 0 (stdt D (ol b)) = some (ss (ol b))
theorem sen.uni (ho : ordz D l ol) (hx : mdx2 D) (hl : 1810 ≤ l) (hb : mdb D) {K : Nat} (hK : K ≤ (D.pr 0).length) (h : sen D ol K ss) (h2 : ssol D ss') : ∀ b, b < K → ss' (ol b) = ss (ol b) := by
  have lm : ∀ m b, b < m → b < K → ss' (ol b) = ss (ol b) := by
    intro m
    induction m with
    | zero => intro b hb; exact absurd hb (Nat.not_lt_zero _)
    | succ m ih =>
      intro b hbm hbK
      have q := ho.1 b (by omega)
      have z := h b hbK
      rw [srt_cg (ss' := ss') hb (hx _ q.1).2 (hx _ q.1).1 (fun t ht => ?_), h2 _ q.1] at z
      · exact Option.some.inj z
      · obtain ⟨a, a1, a2⟩ := ho.us hx hl (by omega) ht
        rw [← a2]
        exact (ih a (by omega) (by omega)).symm
  exact fun b hb => lm (b + 1) b (Nat.lt_succ_self _) hb
/-- the next is what any that fit together say -/
theorem sen.nx (ho : ordz D l ol) (hx : mdx2 D) (hl : 1810 ≤ l) (hb : mdb D) {K : Nat} (hK : K < (D.pr 0).length) (h : sen D ol K ss) (h2 : ssol D ss') : srt D (own D (ol K)) ss 0 905 0 (stdt D (ol K)) = some (ss' (ol K)) := by
  have q := ho.1 K hK
  rw [srt_cg (ss' := ss') hb (hx _ q.1).2 (hx _ q.1).1 (fun t ht => ?_)]
  · exact h2 _ q.1
  · obtain ⟨a, a1, a2⟩ := ho.us hx hl hK ht
    rw [← a2]
    exact (h.uni ho hx hl hb (by omega) h2 a a1).symm
theorem sen.step (ho : ordz D l ol) (hx : mdx2 D) (hl : 1810 ≤ l) (hb : mdb D) {K : Nat} {v : Int32} (hK : K < (D.pr 0).length) (h : sen D ol K ss) (hv : srt D (own D (ol K)) ss 0 905 0 (stdt D (ol K)) = some v) : sen D ol (K + 1) (fup ss (ol K) v) := by
  have eq : ∀ b, b ≤ K → ∀ t, usk D (own D (ol b)) (stdt D (ol b)) t → fup ss (ol K) v t = ss t := by
    intro b hbK t ht
    obtain ⟨a, a1, a2⟩ := ho.us hx hl (by omega) ht
    by_cases e : t = ol K
    · rw [e, fup_at]
      have z := h a (by omega)
      rw [a2, e, hv] at z
      exact Option.some.inj z
    · rw [fup_ne e]
  intro b hbK
  have q := ho.1 b (by omega)
  rw [srt_cg hb (hx _ q.1).2 (hx _ q.1).1 (eq b (by omega))]
  by_cases e : ol b = ol K
  · rw [e, fup_at]; exact hv
  · rw [fup_ne e]
    have : b ≠ K := fun z => e (by rw [z])
    exact h b (by omega)
theorem sen.all (ho : ordz D l ol) (h : sen D ol (D.pr 0).length ss) : ssol D ss := fun s hs2 => by
  obtain ⟨a, a1, a2⟩ := ho.2 s hs2
  have z := h a a1
  rw [a2] at z
  exact z
end Srt
