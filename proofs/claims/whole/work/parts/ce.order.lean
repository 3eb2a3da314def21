/-! WHAT NAMES STAND FOR IS ORDERED: each once, behind its parts -/
/-- what is named at a place of the code, in an INSTANCE; -1 if nothing -/
def nmd (W : Ts) (i p : Nat) : Int32 := if ((W 0).2 p 0 = 2 ∨ (W 0).2 p 0 = 3) ∧ ((W 9).2 (oa W p) 2 = 1 ∨ (W 9).2 (oa W p) 2 = 2) then rch W (oa W p) i else -1
def ot (s : Ts) (r : Nat) : Nat := ((s 14).2 r 0).toNatClampNeg
/-- an entry names another at a place -/
def prt (W : Ts) (e p e2 : Nat) : Prop := enx W e 0 ≤ p ∧ p < enx W e 1 ∧ e2 < (W 13).1 ∧ nmd W (enx W e 2) p = nI e2
def VX (W s : Ts) (xe : Option Nat) : Prop :=
  (∀ e, e < (W 13).1 → sn s e = 2 → ∃ r, r < (s 14).1 ∧ ot s r = e) ∧
  (∀ r, r < (s 14).1 → (sn s (ot s r) = 2 ∧ (s 14).2 r 0 = nI (ot s r) ∧ ot s r < (W 13).1) ∧ (∀ r', r < r' → r' < (s 14).1 → ¬ ot s r' = ot s r) ∧ ∀ p e2, prt W (ot s r) p e2 → ∃ r', r' < r ∧ ot s r' = e2) ∧
  (∀ r, r < (s 20).1 → ∀ p e2, prt W (oe s r) p e2 → p < oq s r → sn s e2 = 2 ∨ (r + 1 < (s 20).1 ∧ oe s (r + 1) = e2) ∨ (r + 1 = (s 20).1 ∧ xe = some e2)) ∧
  (∀ e, e < (W 13).1 → sn s e = 1 → ∃ r, r < (s 20).1 ∧ oe s r = e) ∧ (s 14).1 = cv s 2 (W 13).1
section Order3
variable {W s s' : Ts} {e p r0 e2 : Nat} {y : Int32} {xe : Option Nat}
theorem VX.enter (hO : VO W s) (h : VX W s xe) (he : e < (W 13).1) (hxe : xe = none ∨ xe = some e) (hx0 : xe = none → (s 20).1 = 0) (hb : (W 13).1 ≤ 67108864) (h0 : sn s e = 0) (hea : ea W e < 2147483648) (E : s' = ap 20 (ax 13 s (nI e) 5 1) (nI e) (nI (ea W e)) 0 0) : VX W s' none := by
  obtain ⟨⟨j1, j2, j3⟩, v2, v3, v4, v5, v6⟩ := hO
  obtain ⟨x1, x2, x3, x4, x5⟩ := h
  have t13 : s' 13 = ax 13 s (nI e) 5 1 13 := by rw [E, ap_ne (by decide)]
  have t14 : s' 14 = s 14 := by rw [E, ap_ne (by decide), ax_ne (by decide)]
  have t20 : ax 13 s (nI e) 5 1 20 = s 20 := ax_ne (by decide)
  have n20 : (s' 20).1 = (s 20).1 + 1 := by rw [E, ap_n, t20]
  have c20 : ∀ r q, r < (s 20).1 → (s' 20).2 r q = (s 20).2 r q := fun r q hr => by rw [E, ap_lt (by rw [t20]; exact hr), t20]
  have x20 : ∀ q, q < 2 → (s' 20).2 (s 20).1 q = rw_col (nI e) (nI (ea W e)) 0 0 q := fun q hq => by
    rw [E]
    have := ap_new (s := ax 13 s (nI e) 5 1) (j := 20) (a := nI e) (b := nI (ea W e)) (d := 0) (e := 0) (q := q) hq
    rw [t20] at this
    exact this
  have sne : sn s' e = 1 := by unfold sn; rw [t13]; exact ax_hit (by rw [j2]; exact he) (by decide) (by omega)
  have snx : ∀ x, x ≠ e → sn s' x = sn s x := fun x hx => by unfold sn; rw [t13]; exact ax_c (fun _ z => absurd (z.trans (nI_clamp (by omega))) hx)
  have oo : ∀ r, r < (s 20).1 → oe s' r = oe s r := fun r hr => by unfold oe; rw [c20 r 0 hr]
  have oqq : ∀ r, r < (s 20).1 → oq s' r = oq s r := fun r hr => by unfold oq; rw [c20 r 1 hr]
  have oN : oe s' (s 20).1 = e := by unfold oe; rw [x20 0 (by decide)]; exact nI_clamp (by omega)
  have qN : oq s' (s 20).1 = ea W e := by unfold oq; rw [x20 1 (by decide)]; exact nI_clamp hea
  have ott : ∀ r, ot s' r = ot s r := fun r => by unfold ot; rw [t14]
  have sn2 : ∀ x, sn s x = 2 → sn s' x = 2 := fun x hx => by
    by_cases hxe : x = e
    · subst hxe; rw [h0] at hx; exact absurd hx (by decide)
    · rw [snx x hxe]; exact hx
  refine ⟨fun x hx hs => ?_, fun r hr => ?_, fun r hr p e2 hp hq => ?_, fun x hx hs => ?_, ?_⟩
  · rw [t14]
    have hxe : x ≠ e := fun z => by rw [z, sne] at hs; exact absurd hs (by decide)
    rw [snx x hxe] at hs
    obtain ⟨r, h1, h2⟩ := x1 x hx hs
    exact ⟨r, h1, by rw [ott]; exact h2⟩
  · rw [t14] at hr
    obtain ⟨⟨a1, a2, a3⟩, a4, a5⟩ := x2 r hr
    rw [ott, t14]
    exact ⟨⟨sn2 _ a1, a2, a3⟩, fun r' h1 h2 => by rw [ott]; exact a4 r' h1 h2, fun p e2 hp => by obtain ⟨r', h1, h2⟩ := a5 p e2 hp; exact ⟨r', h1, by rw [ott]; exact h2⟩⟩
  · rw [n20] at hr ⊢
    by_cases hr2 : r < (s 20).1
    · rw [oo r hr2] at hp
      rw [oqq r hr2] at hq
      rcases x3 r hr2 p e2 hp hq with z | ⟨z1, z2⟩ | ⟨z1, z2⟩
      · exact Or.inl (sn2 _ z)
      · exact Or.inr (Or.inl ⟨by omega, by rw [oo _ z1]; exact z2⟩)
      · rcases hxe with y | y
        · rw [y] at z2; cases z2
        · rw [y] at z2
          refine Or.inr (Or.inl ⟨by omega, ?_⟩)
          rw [z1, oN]
          exact Option.some.inj z2
    · have : r = (s 20).1 := by omega
      subst this
      rw [oN] at hp
      rw [qN] at hq
      have := hp.1
      have : ea W e = enx W e 0 := rfl
      omega
  · by_cases hxe : x = e
    · subst hxe; exact ⟨(s 20).1, by omega, oN⟩
    · rw [snx x hxe] at hs
      obtain ⟨r, h1, h2⟩ := x4 x hx hs
      exact ⟨r, by omega, by rw [oo r h1]; exact h2⟩
  · have z := cv_set (v := 2) he snx
    rw [h0, sne, if_neg (by decide), if_neg (by decide)] at z
    rw [t14]; omega
theorem VX.next (h : VX W s none) (hr0 : r0 + 1 = (s 20).1) (hr6 : r0 < 2147483648) (hp2 : p + 1 < 2147483648) (hpa : ∀ q e3, oq s r0 ≤ q → q < p → prt W (oe s r0) q e3 → sn s e3 = 2) (hpe : ∀ e3, prt W (oe s r0) p e3 → e3 = e2) (E : s' = ax 20 s (nI r0) 1 (nI (p + 1))) : VX W s' (some e2) := by
  obtain ⟨x1, x2, x3, x4, x5⟩ := h
  have t13 : s' 13 = s 13 := by rw [E, ax_ne (by decide)]
  have t14 : s' 14 = s 14 := by rw [E, ax_ne (by decide)]
  have n20 : (s' 20).1 = (s 20).1 := by rw [E, ax_n]
  have c0 : ∀ r, (s' 20).2 r 0 = (s 20).2 r 0 := fun r => by rw [E]; exact ax_c (fun _ _ => by decide)
  have c1 : ∀ r, r ≠ r0 → (s' 20).2 r 1 = (s 20).2 r 1 := fun r hr => by rw [E]; exact ax_c (fun _ z => absurd (z.trans (nI_clamp hr6)) hr)
  have y1 : (s' 20).2 r0 1 = nI (p + 1) := by rw [E]; exact ax_hit (by omega) (by decide) hr6
  have snx : ∀ x, sn s' x = sn s x := fun x => by unfold sn; rw [t13]
  have oo : ∀ r, oe s' r = oe s r := fun r => by unfold oe; rw [c0 r]
  have ott : ∀ r, ot s' r = ot s r := fun r => by unfold ot; rw [t14]
  have cvs : ∀ v n, cv s' v n = cv s v n := fun v n => sm_congr (fun x _ _ => by
    show (if sn s' x = v then 1 else 0) = (if sn s x = v then 1 else 0)
    rw [snx])
  refine ⟨fun x hx hs => ?_, fun r hr => ?_, fun r hr q e3 hp hq => ?_, fun x hx hs => ?_, by rw [t14, cvs]; exact x5⟩
  · rw [snx] at hs
    obtain ⟨r, h1, h2⟩ := x1 x hx hs
    exact ⟨r, by rw [t14]; exact h1, by rw [ott]; exact h2⟩
  · rw [t14] at hr
    obtain ⟨⟨a1, a2, a3⟩, a4, a5⟩ := x2 r hr
    rw [ott, t14, snx]
    exact ⟨⟨a1, a2, a3⟩, fun r' h1 h2 => by rw [ott]; exact a4 r' h1 h2, fun p e2 hp => by obtain ⟨r', h1, h2⟩ := a5 p e2 hp; exact ⟨r', h1, by rw [ott]; exact h2⟩⟩
  · rw [n20] at hr ⊢
    rw [oo] at hp
    rw [snx]
    by_cases hrr : r = r0
    · subst hrr
      have q0 : oq s' r = p + 1 := by unfold oq; rw [y1]; exact nI_clamp hp2
      rw [q0] at hq
      by_cases hqp : q = p
      · subst hqp
        exact Or.inr (Or.inr ⟨hr0, by rw [hpe e3 hp]⟩)
      · by_cases hqo : q < oq s r
        · rcases x3 r hr q e3 hp hqo with z | ⟨z, -⟩ | ⟨-, z⟩
          · exact Or.inl z
          · omega
          · cases z
        · exact Or.inl (hpa q e3 (by omega) (by omega) hp)
    · have q0 : oq s' r = oq s r := by unfold oq; rw [c1 r hrr]
      rw [q0] at hq
      rcases x3 r hr q e3 hp hq with z | ⟨z1, z2⟩ | ⟨z1, z2⟩
      · exact Or.inl z
      · exact Or.inr (Or.inl ⟨z1, by rw [oo]; exact z2⟩)
      · cases z2
  · rw [snx] at hs
    obtain ⟨r, h1, h2⟩ := x4 x hx hs
    exact ⟨r, by omega, by rw [oo]; exact h2⟩
theorem VX.pop (hO : VO W s) (h : VX W s none) (hr0 : r0 + 1 = (s 20).1) (he : e = oe s r0) (hb : (W 13).1 ≤ 67108864) (hpa : ∀ q e3, oq s r0 ≤ q → prt W (oe s r0) q e3 → sn s e3 = 2) (E : s' = ac 20 (ap 14 (ax 13 s (nI e) 5 2) (nI e) 0 0 0) r0) : VX W s' none := by
  obtain ⟨⟨j1, j2, j3⟩, v2, v3, v4, v5, v6⟩ := hO
  obtain ⟨x1, x2, x3, x4, x5⟩ := h
  obtain ⟨-, he2, he3, -, -, -⟩ := v4 r0 (by omega)
  rw [← he] at he2 he3
  have ta : ∀ j, j ≠ 20 → s' j = ap 14 (ax 13 s (nI e) 5 2) (nI e) 0 0 0 j := fun j hj => by rw [E]; exact fu_ne _ _ hj
  have t13 : s' 13 = ax 13 s (nI e) 5 2 13 := by rw [ta 13 (by decide), ap_ne (by decide)]
  have t14 : ax 13 s (nI e) 5 2 14 = s 14 := ax_ne (by decide)
  have u20 : ap 14 (ax 13 s (nI e) 5 2) (nI e) 0 0 0 20 = s 20 := by rw [ap_ne (by decide), ax_ne (by decide)]
  have n14 : (s' 14).1 = (s 14).1 + 1 := by rw [ta 14 (by decide), ap_n, t14]
  have c14 : ∀ r q, r < (s 14).1 → (s' 14).2 r q = (s 14).2 r q := fun r q hr => by rw [ta 14 (by decide), ap_lt (by rw [t14]; exact hr), t14]
  have e14 : (s' 14).2 (s 14).1 0 = nI e := by
    rw [ta 14 (by decide)]
    have := ap_new (s := ax 13 s (nI e) 5 2) (j := 14) (a := nI e) (b := 0) (d := 0) (e := 0) (q := 0) (by decide)
    rw [t14] at this
    exact this
  have n20 : (s' 20).1 = r0 := by rw [E]; unfold ac; rw [fu_at]; rfl
  have c20 : ∀ r q, r < r0 → (s' 20).2 r q = (s 20).2 r q := fun r q hr => by
    rw [E]
    unfold ac
    rw [fu_at, u20]
    exact if_pos hr
  have sne : sn s' e = 2 := by unfold sn; rw [t13]; exact ax_hit (by rw [j2]; exact he2) (by decide) (by omega)
  have snx : ∀ x, x ≠ e → sn s' x = sn s x := fun x hx => by unfold sn; rw [t13]; exact ax_c (fun _ z => absurd (z.trans (nI_clamp (by omega))) hx)
  have sn2 : ∀ x, sn s x = 2 → sn s' x = 2 := fun x hx => by
    by_cases hxe : x = e
    · subst hxe; exact sne
    · rw [snx x hxe]; exact hx
  have oo : ∀ r, r < r0 → oe s' r = oe s r := fun r hr => by unfold oe; rw [c20 r 0 hr]
  have oqq : ∀ r, r < r0 → oq s' r = oq s r := fun r hr => by unfold oq; rw [c20 r 1 hr]
  have ott : ∀ r, r < (s 14).1 → ot s' r = ot s r := fun r hr => by unfold ot; rw [c14 r 0 hr]
  have otN : ot s' (s 14).1 = e := by unfold ot; rw [e14]; exact nI_clamp (by omega)
  have all : ∀ q e3, prt W e q e3 → sn s e3 = 2 := fun q e3 hp => by
    rw [he] at hp
    by_cases hq : oq s r0 ≤ q
    · exact hpa q e3 hq hp
    · rcases x3 r0 (by omega) q e3 hp (by omega) with z | ⟨z, -⟩ | ⟨-, z⟩
      · exact z
      · omega
      · cases z
  refine ⟨fun x hx hs => ?_, fun r hr => ?_, fun r hr q e3 hp hq => ?_, fun x hx hs => ?_, ?_⟩
  · by_cases hxe : x = e
    · subst hxe; exact ⟨(s 14).1, by omega, otN⟩
    · rw [snx x hxe] at hs
      obtain ⟨r, h1, h2⟩ := x1 x hx hs
      exact ⟨r, by omega, by rw [ott r h1]; exact h2⟩
  · rw [n14] at hr ⊢
    by_cases hr2 : r < (s 14).1
    · obtain ⟨⟨a1, a2, a3⟩, a4, a5⟩ := x2 r hr2
      rw [ott r hr2, c14 r 0 hr2]
      refine ⟨⟨sn2 _ a1, a2, a3⟩, fun r' h1 h2 => ?_, fun p e2 hp => ?_⟩
      · by_cases h3 : r' < (s 14).1
        · rw [ott r' h3]; exact a4 r' h1 h3
        · rw [show r' = (s 14).1 by omega, otN]
          intro z
          rw [← z, he3] at a1
          exact absurd a1 (by decide)
      · obtain ⟨r', h1, h2⟩ := a5 p e2 hp
        exact ⟨r', h1, by rw [ott r' (by omega)]; exact h2⟩
    · have : r = (s 14).1 := by omega
      subst this
      rw [otN]
      refine ⟨⟨sne, e14, he2⟩, fun r' h1 h2 => by omega, fun p e2 hp => ?_⟩
      obtain ⟨r', h1, h2⟩ := x1 e2 hp.2.2.1 (all p e2 hp)
      exact ⟨r', h1, by rw [ott r' h1]; exact h2⟩
  · rw [n20] at hr ⊢
    rw [oo r hr] at hp
    rw [oqq r hr] at hq
    rcases x3 r (by omega) q e3 hp hq with z | ⟨z1, z2⟩ | ⟨z1, z2⟩
    · exact Or.inl (sn2 _ z)
    · by_cases h3 : r + 1 < r0
      · exact Or.inr (Or.inl ⟨h3, by rw [oo _ h3]; exact z2⟩)
      · rw [show r + 1 = r0 by omega, ← he] at z2
        rw [← z2]; exact Or.inl sne
    · cases z2
  · have hxe : x ≠ e := fun z => by rw [z, sne] at hs; exact absurd hs (by decide)
    rw [snx x hxe] at hs
    obtain ⟨r, h1, h2⟩ := x4 x hx hs
    have : r < r0 := by
      by_cases h3 : r = r0
      · subst h3; exact absurd (h2.symm.trans he.symm) hxe
      · omega
    exact ⟨r, by omega, by rw [oo r this]; exact h2⟩
  · have z := cv_set (v := 2) he2 snx
    rw [he3, sne, if_neg (by decide), if_pos rfl] at z
    rw [n14]; omega
/-- nothing is open -/
theorem VX.of0 (h : VX W s xe) (h0 : (s 20).1 = 0) (E : s' = ac 20 s 0) : VX W s' none := by
  obtain ⟨x1, x2, x3, x4, x5⟩ := h
  have ta : ∀ j, j ≠ 20 → s' j = s j := fun j hj => by rw [E]; exact fu_ne _ _ hj
  have n20 : (s' 20).1 = 0 := by rw [E]; unfold ac; rw [fu_at]; rfl
  have t13 := ta 13 (by decide)
  have t14 := ta 14 (by decide)
  have snx : ∀ x, sn s' x = sn s x := fun x => by unfold sn; rw [t13]
  have ott : ∀ r, ot s' r = ot s r := fun r => by unfold ot; rw [t14]
  have cvs : ∀ v n, cv s' v n = cv s v n := fun v n => sm_congr (fun x _ _ => by
    show (if sn s' x = v then 1 else 0) = (if sn s x = v then 1 else 0)
    rw [snx])
  refine ⟨fun x hx hs => ?_, fun r hr => ?_, fun r hr => by omega, fun x hx hs => ?_, by rw [t14, cvs]; exact x5⟩
  · rw [snx] at hs
    obtain ⟨r, h1, h2⟩ := x1 x hx hs
    exact ⟨r, by rw [t14]; exact h1, by rw [ott]; exact h2⟩
  · rw [t14] at hr
    obtain ⟨⟨a1, a2, a3⟩, a4, a5⟩ := x2 r hr
    rw [ott, t14, snx]
    exact ⟨⟨a1, a2, a3⟩, fun r' h1 h2 => by rw [ott]; exact a4 r' h1 h2, fun p e2 hp => by obtain ⟨r', h1, h2⟩ := a5 p e2 hp; exact ⟨r', h1, by rw [ott]; exact h2⟩⟩
  · rw [snx] at hs
    obtain ⟨r, h1, -⟩ := x4 x hx hs
    omega
theorem cv12 {n : Nat} : cv s 1 n + cv s 2 n ≤ n := by
  induction n with
  | zero => exact Nat.le_refl _
  | succ n ih =>
    show cv s 1 n + (if sn s (0 + n) = 1 then 1 else 0) + (cv s 2 n + (if sn s (0 + n) = 2 then 1 else 0)) ≤ n + 1
    by_cases h1 : sn s (0 + n) = 1
    · rw [if_pos h1, if_neg (by rw [h1]; decide)]; omega
    · rw [if_neg h1]; split <;> omega
/-- all are ordered -/
theorem cv_full {n : Nat} (h : ∀ e, e < n → sn s e = 2) : cv s 2 n = n := by
  induction n with
  | zero => rfl
  | succ n ih =>
    show cv s 2 n + (if sn s (0 + n) = 2 then 1 else 0) = n + 1
    rw [ih (fun e he => h e (by omega)), Nat.zero_add, if_pos (h n (by omega))]
/-- the order is whole, and each comes behind its parts -/
def TOP (W : Ts) (t : Tb) (od : Nat → Nat) : Prop := ORD t (W 13).1 od ∧ ∀ k, k < (W 13).1 → ∀ p e2, prt W (od k) p e2 → ∃ k', k' < k ∧ od k' = e2
theorem VX.top (h : VX W s xe) (ha : ∀ e, e < (W 13).1 → sn s e = 2) : TOP W (s 14) (ot s) := by
  obtain ⟨x1, x2, x3, x4, x5⟩ := h
  rw [cv_full ha] at x5
  refine ⟨⟨x5, fun k hk => ?_, fun k k' h1 h2 z => ?_, fun e he => ?_⟩, fun k hk p e2 hp => ?_⟩
  · exact ⟨(x2 k (by omega)).1.2.1, (x2 k (by omega)).1.2.2⟩
  · exact (x2 k (by omega)).2.1 k' h1 (by omega) z.symm
  · obtain ⟨r, h1, h2⟩ := x1 e he (ha e he)
    exact ⟨r, by omega, h2⟩
  · exact (x2 k (by omega)).2.2 p e2 hp
end Order3
section Order4
variable {W s s' : Ts} {e p r0 e2 : Nat}
theorem ea_b (hW : JW W) (he : e < (W 13).1) : ea W e < 2147483648 := by
  obtain ⟨a, b, i, h1, h2, h3, h4, h5, h6, h7⟩ := hW.ent he
  have := h5.1
  rw [h6]; omega
theorem en_of (hW : JW W) (he : e < (W 13).1) {a b i : Nat} (h1 : (W 13).2 e 0 = nI a) (h2 : (W 13).2 e 1 = nI b) (h3 : (W 13).2 e 2 = nI i) (hb : b ≤ 67108864) (hi : i < (W 11).1) (hab : a ≤ b) : enx W e 0 = a ∧ enx W e 1 = b ∧ enx W e 2 = i := by
  have := hW.2.2.2.2.2.2 11 (by decide)
  unfold enx
  rw [h1, h2, h3]
  exact ⟨nI_clamp (by omega), nI_clamp (by omega), nI_clamp (by omega)⟩
theorem up_enter (hO : VO W s) (he : e < (W 13).1) (hb : (W 13).1 ≤ 67108864) (h0 : sn s e = 0) (E : s' = ap 20 (ax 13 s (nI e) 5 1) (nI e) (nI (ea W e)) 0 0) : (∀ x, ¬ sn s x = 0 → ¬ sn s' x = 0) ∧ ¬ sn s' e = 0 ∧ cv s' 2 (W 13).1 = cv s 2 (W 13).1 ∧ (s' 20).1 = (s 20).1 + 1 := by
  obtain ⟨⟨j1, j2, j3⟩, -⟩ := hO
  have t13 : s' 13 = ax 13 s (nI e) 5 1 13 := by rw [E, ap_ne (by decide)]
  have sne : sn s' e = 1 := by unfold sn; rw [t13]; exact ax_hit (by rw [j2]; exact he) (by decide) (by omega)
  have snx : ∀ x, x ≠ e → sn s' x = sn s x := fun x hx => by unfold sn; rw [t13]; exact ax_c (fun _ z => absurd (z.trans (nI_clamp (by omega))) hx)
  refine ⟨fun x hx => ?_, by rw [sne]; decide, ?_, by rw [E, ap_n, ax_ne (by decide)]⟩
  · by_cases hxe : x = e
    · rw [hxe, sne]; decide
    · rw [snx x hxe]; exact hx
  · have z := cv_set (v := 2) he snx
    rw [h0, sne, if_neg (by decide), if_neg (by decide)] at z
    omega
theorem up_pop (hO : VO W s) (hr0 : r0 + 1 = (s 20).1) (he : e = oe s r0) (hb : (W 13).1 ≤ 67108864) (E : s' = ac 20 (ap 14 (ax 13 s (nI e) 5 2) (nI e) 0 0 0) r0) : (∀ x, ¬ sn s x = 0 → ¬ sn s' x = 0) ∧ cv s' 2 (W 13).1 = cv s 2 (W 13).1 + 1 ∧ (s' 20).1 = r0 := by
  obtain ⟨⟨j1, j2, j3⟩, v2, v3, v4, v5, v6⟩ := hO
  obtain ⟨-, he2, he3, -, -, -⟩ := v4 r0 (by omega)
  rw [← he] at he2 he3
  have t13 : s' 13 = ax 13 s (nI e) 5 2 13 := by rw [E]; unfold ac; rw [fu_ne _ _ (by decide), ap_ne (by decide)]
  have sne : sn s' e = 2 := by unfold sn; rw [t13]; exact ax_hit (by rw [j2]; exact he2) (by decide) (by omega)
  have snx : ∀ x, x ≠ e → sn s' x = sn s x := fun x hx => by unfold sn; rw [t13]; exact ax_c (fun _ z => absurd (z.trans (nI_clamp (by omega))) hx)
  refine ⟨fun x hx => ?_, ?_, by rw [E]; unfold ac; rw [fu_at]; rfl⟩
  · by_cases hxe : x = e
    · rw [hxe, sne]; decide
    · rw [snx x hxe]; exact hx
  · have z := cv_set (v := 2) he2 snx
    rw [he3, sne, if_neg (by decide), if_pos rfl] at z
    omega
theorem up_next (E : s' = ax 20 s (nI r0) 1 (nI p)) : (∀ x, sn s' x = sn s x) ∧ cv s' 2 (W 13).1 = cv s 2 (W 13).1 ∧ (s' 20).1 = (s 20).1 := by
  have t13 : s' 13 = s 13 := by rw [E, ax_ne (by decide)]
  have snx : ∀ x, sn s' x = sn s x := fun x => by unfold sn; rw [t13]
  refine ⟨snx, sm_congr (fun x _ _ => by
    show (if sn s' x = 2 then 1 else 0) = (if sn s x = 2 then 1 else 0)
    rw [snx]), by rw [E, ax_n]⟩
end Order4
section Order5
variable {H : mu_H} {d m e r0 i r p a b : Nat} {W : Ts} {C : Nat → Nat}
theorem dm_reach3 (h : dm m H) (hj : jz W (ak m H)) (hW : JW W) (hi : i < (W 11).1) (hr1 : sp W (im W i) 6 ≤ r) (hr2 : r < sp W (im W i + 1) 6) : mu_TI (mu_D (d + 2)) 125 [.inr (.inr (some m)), .inl (nI r), .inl (nI i)] H (fun x H1 => H = H1 ∧ x = rch W r i ∧ (((W 9).2 r 2 = 5) ∨ ((W 9).2 r 2 = 3 ∧ ∃ w v, w < (W 15).1 ∧ x = nI w ∧ (W 15).2 w 0 = nI v ∧ v < (W 3).1) ∨ (¬ (W 9).2 r 2 = 5 ∧ ¬ (W 9).2 r 2 = 3 ∧ ∃ e, e < (W 13).1 ∧ x = nI e))) := by
  have b := hW.2.2.2.2.2.2
  have b9 := b 9 (by decide)
  have b10 := b 10 (by decide)
  have b11 := b 11 (by decide)
  obtain ⟨-, -, -, hkM, b1⟩ := hW.inst hi
  obtain ⟨lr1, lr2, lr3⟩ := hW.le hkM (c := 6) (j := 9) (by decide) (by decide) rfl
  obtain ⟨a, l, Q, ka1, ka2, kal, hQ, hwk, hkn⟩ := hW.2.2.2.2.1 i hi r hr1 hr2
  have hfw0 : fw W (W 10) (im W i) (a + 0) (l - 1 - 0) Q := wk_fw hwk 0 Q rfl
  refine mu_meth (M := mu_m125) rfl rfl ?_
  refine mw_ht (mu_fn_of (show [0, 1, 2].Nodup by decide)) ?_
  refine mw_go mu_g125 (k := 2) (f1 := (4, [(0, .inr (.inr (some m))), (1, .inl (nI r)), (2, .inl (nI i))], [.inr (.inr (mu_r H m 9))], H)) (C := [mu_is H (some m) 6]) rfl (show mu_is H (some m) 6 from (show mu_is H (some m) 6 from gi_im h.1 h.2.1)) ?_
  rw [(show mu_r H m 9 = some (m + 19) from (gi_mr h.1 h.2.1 (j := 9) (by decide)).trans (congrArg some (by omega)))]
  refine mw_go mu_g125 (k := 2) (f1 := (6, [(0, .inr (.inr (some m))), (1, .inl (nI r)), (2, .inl (nI i))], [.inl (2 : Int32), .inl (nI r), .inr (.inr (some (m + 19)))], H)) (C := []) rfl trivial ?_
  refine mw_cIe (fun _ => rfl) (show mu_is H (some (m + 19)) 10 from (h.1.w (md_w9 h.2.1)).1) (dm.getr (d := d) h rfl (j := 9) (by decide) rfl (nI r) (c := 2) (by decide)) ?_
  rw [show (tget ((ak m H) 9) (nI r) 2) = ((W 9).2 r 2) from (tget_nI (by omega)).trans (by rw [hj.1 9 (by decide) (by decide) (by decide)])]
  refine mw_go mu_g125 (k := 3) (f1 := (14, [(3, .inl ((W 9).2 r 2)), (0, .inr (.inr (some m))), (1, .inl (nI r)), (2, .inl (nI i))], [.inr (.inr (mu_r H m 9))], H)) (C := [mu_is H (some m) 6]) rfl (show mu_is H (some m) 6 from (show mu_is H (some m) 6 from gi_im h.1 h.2.1)) ?_
  rw [(show mu_r H m 9 = some (m + 19) from (gi_mr h.1 h.2.1 (j := 9) (by decide)).trans (congrArg some (by omega)))]
  refine mw_go mu_g125 (k := 2) (f1 := (16, [(3, .inl ((W 9).2 r 2)), (0, .inr (.inr (some m))), (1, .inl (nI r)), (2, .inl (nI i))], [.inl (3 : Int32), .inl (nI r), .inr (.inr (some (m + 19)))], H)) (C := []) rfl trivial ?_
  refine mw_cIe (fun _ => rfl) (show mu_is H (some (m + 19)) 10 from (h.1.w (md_w9 h.2.1)).1) (dm.getr (d := d) h rfl (j := 9) (by decide) rfl (nI r) (c := 3) (by decide)) ?_
  rw [show (tget ((ak m H) 9) (nI r) 3) = ((W 9).2 r 3) from (tget_nI (by omega)).trans (by rw [hj.1 9 (by decide) (by decide) (by decide)])]
  refine mw_go mu_g125 (k := 3) (f1 := (23, [(4, .inl ((W 9).2 r 3)), (3, .inl ((W 9).2 r 2)), (0, .inr (.inr (some m))), (1, .inl (nI r)), (2, .inl (nI i))], [.inl (5 : Int32), .inl ((W 9).2 r 2)], H)) (C := []) rfl trivial ?_
  refine mw_if (P := ((W 9).2 r 2) = (5 : Int32)) (a := 26) (b := 29) (fun _ => rfl) trivial (fun h3 => ?_) (fun h3 => ?_)
  · -- 26: ((W 9).2 r 2) = (5 : Int32)
    refine mw_go mu_g125 (k := 1) (f1 := (28, [(4, .inl ((W 9).2 r 3)), (3, .inl ((W 9).2 r 2)), (0, .inr (.inr (some m))), (1, .inl (nI r)), (2, .inl (nI i))], [.inl ((W 9).2 r 3)], H)) (C := []) rfl trivial ?_
    exact mw_of (fun _ => mu_ret rfl trivial ⟨_, _, rfl, rfl, (if_pos h3).symm, Or.inl h3⟩)
  · -- 29: not ((W 9).2 r 2) = (5 : Int32)
    refine mw_go mu_g125 (k := 4) (f1 := (36, [(5, .inl (nI i)), (4, .inl ((W 9).2 r 3)), (3, .inl ((W 9).2 r 2)), (0, .inr (.inr (some m))), (1, .inl (nI r)), (2, .inl (nI i))], [.inr (.inr (mu_r H m 9))], H)) (C := [mu_is H (some m) 6]) rfl (show mu_is H (some m) 6 from (show mu_is H (some m) 6 from gi_im h.1 h.2.1)) ?_
    rw [(show mu_r H m 9 = some (m + 19) from (gi_mr h.1 h.2.1 (j := 9) (by decide)).trans (congrArg some (by omega)))]
    refine mw_go mu_g125 (k := 2) (f1 := (38, [(5, .inl (nI i)), (4, .inl ((W 9).2 r 3)), (3, .inl ((W 9).2 r 2)), (0, .inr (.inr (some m))), (1, .inl (nI r)), (2, .inl (nI i))], [.inl (0 : Int32), .inl (nI r), .inr (.inr (some (m + 19)))], H)) (C := []) rfl trivial ?_
    refine mw_cIe (fun _ => rfl) (show mu_is H (some (m + 19)) 10 from (h.1.w (md_w9 h.2.1)).1) (dm.getr (d := d) h rfl (j := 9) (by decide) rfl (nI r) (c := 0) (by decide)) ?_
    rw [show (tget ((ak m H) 9) (nI r) 0) = (nI a) from ((tget_nI (by omega)).trans (by rw [hj.1 9 (by decide) (by decide) (by decide)])).trans ka1]
    refine mw_go mu_g125 (k := 3) (f1 := (46, [(7, .inl (0 : Int32)), (6, .inl (nI a)), (5, .inl (nI i)), (4, .inl ((W 9).2 r 3)), (3, .inl ((W 9).2 r 2)), (0, .inr (.inr (some m))), (1, .inl (nI r)), (2, .inl (nI i))], [], H)) (C := []) rfl trivial ?_
    show mu_W _ _ (46, [(7, .inl (nI 0)), (6, .inl (nI a)), (5, .inl (nI i)), (4, .inl ((W 9).2 r 3)), (3, .inl ((W 9).2 r 2)), (0, .inr (.inr (some m))), (1, .inl (nI r)), (2, .inl (nI i))], [], H) _
    refine mw_sub (L' := [(5, .inl (nI i)), (7, .inl (nI 0)), (0, .inr (.inr (some m))), (1, .inl (nI r)), (2, .inl (nI i)), (3, .inl ((W 9).2 r 2)), (4, .inl ((W 9).2 r 3)), (6, .inl (nI a))]) (by simp) ?_
    refine mw_down (α := Nat × Nat) (fun zs => (46, [(5, .inl (nI zs.1)), (7, .inl (nI zs.2)), (0, .inr (.inr (some m))), (1, .inl (nI r)), (2, .inl (nI i)), (3, .inl ((W 9).2 r 2)), (4, .inl ((W 9).2 r 3)), (6, .inl (nI a))], [], H)) (fun zs => l - 1 - zs.2) (fun zs => (zs.1 < (W 11).1) ∧ (zs.2 ≤ l - 1) ∧ (fw W (W 10) (im W zs.1) (a + zs.2) (l - 1 - zs.2) Q) ∧ (zs.1 = rci W a i zs.2)) (fun zs hs ih => ?_) (i, 0) ⟨(show i < (W 11).1 from hi), (show 0 ≤ l - 1 from by omega), (show fw W (W 10) (im W i) (a + 0) (l - 1 - 0) Q from hfw0), rfl⟩
    obtain ⟨ii, y⟩ := zs
    obtain ⟨hi1, hyl, hfw, hii⟩ := hs
    have hi1 : ii < (W 11).1 := hi1
    have hyl : y ≤ l - 1 := hyl
    have hii : ii = rci W a i y := hii
    have hfw : fw W (W 10) (im W ii) (a + y) (l - 1 - y) Q := hfw
    show mu_W _ _ (46, [(5, .inl (nI ii)), (7, .inl (nI y)), (0, .inr (.inr (some m))), (1, .inl (nI r)), (2, .inl (nI i)), (3, .inl ((W 9).2 r 2)), (4, .inl ((W 9).2 r 3)), (6, .inl (nI a))], [], H) _
    refine mw_go mu_g125 (k := 3) (f1 := (52, [(5, .inl (nI ii)), (7, .inl (nI y)), (0, .inr (.inr (some m))), (1, .inl (nI r)), (2, .inl (nI i)), (3, .inl ((W 9).2 r 2)), (4, .inl ((W 9).2 r 3)), (6, .inl (nI a))], [.inr (.inr (mu_r H m 9)), .inl (nI y)], H)) (C := [mu_is H (some m) 6]) rfl (show mu_is H (some m) 6 from (show mu_is H (some m) 6 from gi_im h.1 h.2.1)) ?_
    rw [(show mu_r H m 9 = some (m + 19) from (gi_mr h.1 h.2.1 (j := 9) (by decide)).trans (congrArg some (by omega)))]
    refine mw_go mu_g125 (k := 2) (f1 := (54, [(5, .inl (nI ii)), (7, .inl (nI y)), (0, .inr (.inr (some m))), (1, .inl (nI r)), (2, .inl (nI i)), (3, .inl ((W 9).2 r 2)), (4, .inl ((W 9).2 r 3)), (6, .inl (nI a))], [.inl (1 : Int32), .inl (nI r), .inr (.inr (some (m + 19))), .inl (nI y)], H)) (C := []) rfl trivial ?_
    refine mw_cIe (fun _ => rfl) (show mu_is H (some (m + 19)) 10 from (h.1.w (md_w9 h.2.1)).1) (dm.getr (d := d) h rfl (j := 9) (by decide) rfl (nI r) (c := 1) (by decide)) ?_
    rw [show (tget ((ak m H) 9) (nI r) 1) = (nI l) from ((tget_nI (by omega)).trans (by rw [hj.1 9 (by decide) (by decide) (by decide)])).trans ka2]
    refine mw_go mu_g125 (k := 2) (f1 := (59, [(5, .inl (nI ii)), (7, .inl (nI y)), (0, .inr (.inr (some m))), (1, .inl (nI r)), (2, .inl (nI i)), (3, .inl ((W 9).2 r 2)), (4, .inl ((W 9).2 r 3)), (6, .inl (nI a))], [.inl ((nI l) - (1 : Int32)), .inl (nI y)], H)) (C := []) rfl trivial ?_
    refine mw_if (P := (nI y) < ((nI l) - (1 : Int32))) (a := 62) (b := 102) (fun _ => rfl) trivial (fun h6 => ?_) (fun h6 => ?_)
    · -- 62: (nI y) < ((nI l) - (1 : Int32))
      obtain ⟨ji1, ji2, ji3, ji4, ji5⟩ := hW.inst hi1
      obtain ⟨lv1, lv2, lv3⟩ := hW.le ji4 (c := 2) (j := 3) (by decide) (by decide) rfl
      have hyb : y < l - 1 := lt_last (by omega) (by omega) h6
      obtain ⟨vv, q2, hq1, hv, hty, hst, hq4, hfw2⟩ : ∃ v q2, im W ii < (W 1).1 ∧ (sp W (im W ii) 2 ≤ v ∧ v < sp W (im W ii + 1) 2) ∧ (W 3).2 v 1 = 3 ∧ (W 10).2 (a + y) 0 = nI (v - sp W (im W ii) 2) ∧ (W 3).2 v 4 = nI q2 ∧ fw W (W 10) q2 (a + y + 1) (l - 1 - y - 1) Q := by
        have z := hfw
        rw [show l - 1 - y = (l - 1 - y - 1) + 1 by omega] at z
        exact z
      have hq2 := fw_lt hQ hfw2
      obtain ⟨i2, hi2, ei2, em2⟩ := (hW.2.1 ii hi1 vv hv.1 hv.2).1 hty
      refine mw_go mu_g125 (k := 2) (f1 := (66, [(5, .inl (nI ii)), (7, .inl (nI y)), (0, .inr (.inr (some m))), (1, .inl (nI r)), (2, .inl (nI i)), (3, .inl ((W 9).2 r 2)), (4, .inl ((W 9).2 r 3)), (6, .inl (nI a))], [.inr (.inr (mu_r H m 12))], H)) (C := [mu_is H (some m) 6]) rfl (show mu_is H (some m) 6 from (show mu_is H (some m) 6 from gi_im h.1 h.2.1)) ?_
      rw [(show mu_r H m 12 = some (m + 25) from (gi_mr h.1 h.2.1 (j := 12) (by decide)).trans (congrArg some (by omega)))]
      refine mw_go mu_g125 (k := 2) (f1 := (70, [(5, .inl (nI ii)), (7, .inl (nI y)), (0, .inr (.inr (some m))), (1, .inl (nI r)), (2, .inl (nI i)), (3, .inl ((W 9).2 r 2)), (4, .inl ((W 9).2 r 3)), (6, .inl (nI a))], [.inr (.inr (mu_r H m 11)), .inr (.inr (some (m + 25)))], H)) (C := [mu_is H (some m) 6]) rfl (show mu_is H (some m) 6 from (show mu_is H (some m) 6 from gi_im h.1 h.2.1)) ?_
      rw [(show mu_r H m 11 = some (m + 23) from (gi_mr h.1 h.2.1 (j := 11) (by decide)).trans (congrArg some (by omega)))]
      refine mw_go mu_g125 (k := 2) (f1 := (73, [(5, .inl (nI ii)), (7, .inl (nI y)), (0, .inr (.inr (some m))), (1, .inl (nI r)), (2, .inl (nI i)), (3, .inl ((W 9).2 r 2)), (4, .inl ((W 9).2 r 3)), (6, .inl (nI a))], [.inl (1 : Int32), .inl (nI ii), .inr (.inr (some (m + 23))), .inr (.inr (some (m + 25)))], H)) (C := []) rfl trivial ?_
      refine mw_cIe (fun _ => rfl) (show mu_is H (some (m + 23)) 10 from (h.1.w (md_w11 h.2.1)).1) (dm.getr (d := d) h rfl (j := 11) (by decide) rfl (nI ii) (c := 1) (by decide)) ?_
      rw [show (tget ((ak m H) 11) (nI ii) 1) = (nI (ia W ii)) from ((tget_nI (by omega)).trans (by rw [hj.1 11 (by decide) (by decide) (by decide)])).trans (hW.1 ii hi1).1.2.1]
      refine mw_go mu_g125 (k := 2) (f1 := (80, [(5, .inl (nI ii)), (7, .inl (nI y)), (0, .inr (.inr (some m))), (1, .inl (nI r)), (2, .inl (nI i)), (3, .inl ((W 9).2 r 2)), (4, .inl ((W 9).2 r 3)), (6, .inl (nI a))], [.inr (.inr (mu_r H m 10)), .inl (nI (ia W ii)), .inr (.inr (some (m + 25)))], H)) (C := [mu_is H (some m) 6]) rfl (show mu_is H (some m) 6 from (show mu_is H (some m) 6 from gi_im h.1 h.2.1)) ?_
      rw [(show mu_r H m 10 = some (m + 21) from (gi_mr h.1 h.2.1 (j := 10) (by decide)).trans (congrArg some (by omega)))]
      refine mw_go mu_g125 (k := 4) (f1 := (86, [(5, .inl (nI ii)), (7, .inl (nI y)), (0, .inr (.inr (some m))), (1, .inl (nI r)), (2, .inl (nI i)), (3, .inl ((W 9).2 r 2)), (4, .inl ((W 9).2 r 3)), (6, .inl (nI a))], [.inl (0 : Int32), .inl ((nI a) + (nI y)), .inr (.inr (some (m + 21))), .inl (nI (ia W ii)), .inr (.inr (some (m + 25)))], H)) (C := []) rfl trivial ?_
      refine mw_cIe (fun _ => rfl) (show mu_is H (some (m + 21)) 10 from (h.1.w (md_w10 h.2.1)).1) (dm.getr (d := d) h rfl (j := 10) (by decide) rfl ((nI a) + (nI y)) (c := 0) (by decide)) ?_
      rw [show (tget ((ak m H) 10) ((nI a) + (nI y)) 0) = (nI (vv - sp W (im W ii) 2)) from (by rw [nI_add]; exact ((tget_nI (by omega)).trans (by rw [hj.1 10 (by decide) (by decide) (by decide)])).trans hst)]
      refine mw_go mu_g125 (k := 2) (f1 := (91, [(5, .inl (nI ii)), (7, .inl (nI y)), (0, .inr (.inr (some m))), (1, .inl (nI r)), (2, .inl (nI i)), (3, .inl ((W 9).2 r 2)), (4, .inl ((W 9).2 r 3)), (6, .inl (nI a))], [.inl (0 : Int32), .inl ((nI (ia W ii)) + (nI (vv - sp W (im W ii) 2))), .inr (.inr (some (m + 25)))], H)) (C := []) rfl trivial ?_
      refine mw_cIe (fun _ => rfl) (show mu_is H (some (m + 25)) 10 from (h.1.w (md_w12 h.2.1)).1) (dm.getr (d := d) h rfl (j := 12) (by decide) rfl ((nI (ia W ii)) + (nI (vv - sp W (im W ii) 2))) (c := 0) (by decide)) ?_
      rw [show (tget ((ak m H) 12) ((nI (ia W ii)) + (nI (vv - sp W (im W ii) 2))) 0) = (nI i2) from (by rw [nI_add]; exact ((tget_nI (by omega)).trans (by rw [hj.1 12 (by decide) (by decide) (by decide)])).trans ei2)]
      refine mw_go mu_g125 (k := 3) (f1 := (46, [(7, .inl ((nI y) + 1)), (5, .inl (nI i2)), (0, .inr (.inr (some m))), (1, .inl (nI r)), (2, .inl (nI i)), (3, .inl ((W 9).2 r 2)), (4, .inl ((W 9).2 r 3)), (6, .inl (nI a))], [], H)) (C := []) rfl trivial ?_
      rw [nI_1 y]
      exact mw_sub (by simp) (ih (i2, y + 1) ⟨(show i2 < (W 11).1 from hi2), (show (y + 1) ≤ l - 1 from by omega), (show fw W (W 10) (im W i2) (a + (y + 1)) (l - 1 - (y + 1)) Q from (by rw [em2, hq4, nI_clamp (by omega), show a + (y + 1) = a + y + 1 by omega, show l - 1 - (y + 1) = l - 1 - y - 1 by omega]; exact hfw2)), (show i2 = ((W 12).2 (ia W (rci W a i y) + ((W 10).2 (a + y) 0).toNatClampNeg) 0).toNatClampNeg by rw [← hii, hst, nI_clamp (by omega), ei2, nI_clamp (by omega)])⟩ (by show l - 1 - (y + 1) < l - 1 - y; omega))
    · -- 102: not (nI y) < ((nI l) - (1 : Int32))
      obtain ⟨ji1, ji2, ji3, ji4, ji5⟩ := hW.inst hi1
      obtain ⟨lv1, lv2, lv3⟩ := hW.le ji4 (c := 2) (j := 3) (by decide) (by decide) rfl
      have hye : y = l - 1 := by have := ge_last (by omega) h6; omega
      have hQe : Q = im W ii := by rw [hye, Nat.sub_self] at hfw; exact hfw
      rw [hQe] at hkn
      have hq0 : rq2 W r i = ii := by unfold rq2; rw [ka1, ka2, nI_clamp (by omega), nI_clamp (by omega), ← hye]; exact hii.symm
      refine mw_go mu_g125 (k := 2) (f1 := (104, [(5, .inl (nI ii)), (7, .inl (nI y)), (0, .inr (.inr (some m))), (1, .inl (nI r)), (2, .inl (nI i)), (3, .inl ((W 9).2 r 2)), (4, .inl ((W 9).2 r 3)), (6, .inl (nI a))], [.inl (3 : Int32), .inl ((W 9).2 r 2)], H)) (C := []) rfl trivial ?_
      refine mw_if (P := ((W 9).2 r 2) = (3 : Int32)) (a := 107) (b := 129) (fun _ => rfl) trivial (fun h10 => ?_) (fun h10 => ?_)
      · -- 107: ((W 9).2 r 2) = (3 : Int32)
        obtain ⟨tv, et, htv, hnt⟩ := kn3 hkn h10
        obtain ⟨ww, hww, ew, ew2⟩ := (hW.2.1 ii hi1 tv htv.1 htv.2).2 hnt
        refine mw_go mu_g125 (k := 2) (f1 := (111, [(5, .inl (nI ii)), (7, .inl (nI y)), (0, .inr (.inr (some m))), (1, .inl (nI r)), (2, .inl (nI i)), (3, .inl ((W 9).2 r 2)), (4, .inl ((W 9).2 r 3)), (6, .inl (nI a))], [.inr (.inr (mu_r H m 12))], H)) (C := [mu_is H (some m) 6]) rfl (show mu_is H (some m) 6 from (show mu_is H (some m) 6 from gi_im h.1 h.2.1)) ?_
        rw [(show mu_r H m 12 = some (m + 25) from (gi_mr h.1 h.2.1 (j := 12) (by decide)).trans (congrArg some (by omega)))]
        refine mw_go mu_g125 (k := 2) (f1 := (115, [(5, .inl (nI ii)), (7, .inl (nI y)), (0, .inr (.inr (some m))), (1, .inl (nI r)), (2, .inl (nI i)), (3, .inl ((W 9).2 r 2)), (4, .inl ((W 9).2 r 3)), (6, .inl (nI a))], [.inr (.inr (mu_r H m 11)), .inr (.inr (some (m + 25)))], H)) (C := [mu_is H (some m) 6]) rfl (show mu_is H (some m) 6 from (show mu_is H (some m) 6 from gi_im h.1 h.2.1)) ?_
        rw [(show mu_r H m 11 = some (m + 23) from (gi_mr h.1 h.2.1 (j := 11) (by decide)).trans (congrArg some (by omega)))]
        refine mw_go mu_g125 (k := 2) (f1 := (118, [(5, .inl (nI ii)), (7, .inl (nI y)), (0, .inr (.inr (some m))), (1, .inl (nI r)), (2, .inl (nI i)), (3, .inl ((W 9).2 r 2)), (4, .inl ((W 9).2 r 3)), (6, .inl (nI a))], [.inl (1 : Int32), .inl (nI ii), .inr (.inr (some (m + 23))), .inr (.inr (some (m + 25)))], H)) (C := []) rfl trivial ?_
        refine mw_cIe (fun _ => rfl) (show mu_is H (some (m + 23)) 10 from (h.1.w (md_w11 h.2.1)).1) (dm.getr (d := d) h rfl (j := 11) (by decide) rfl (nI ii) (c := 1) (by decide)) ?_
        rw [show (tget ((ak m H) 11) (nI ii) 1) = (nI (ia W ii)) from ((tget_nI (by omega)).trans (by rw [hj.1 11 (by decide) (by decide) (by decide)])).trans (hW.1 ii hi1).1.2.1]
        refine mw_go mu_g125 (k := 3) (f1 := (125, [(5, .inl (nI ii)), (7, .inl (nI y)), (0, .inr (.inr (some m))), (1, .inl (nI r)), (2, .inl (nI i)), (3, .inl ((W 9).2 r 2)), (4, .inl ((W 9).2 r 3)), (6, .inl (nI a))], [.inl (0 : Int32), .inl ((nI (ia W ii)) + ((W 9).2 r 3)), .inr (.inr (some (m + 25)))], H)) (C := []) rfl trivial ?_
        refine mw_cIe (fun _ => rfl) (show mu_is H (some (m + 25)) 10 from (h.1.w (md_w12 h.2.1)).1) (dm.getr (d := d) h rfl (j := 12) (by decide) rfl ((nI (ia W ii)) + ((W 9).2 r 3)) (c := 0) (by decide)) ?_
        rw [show (tget ((ak m H) 12) ((nI (ia W ii)) + ((W 9).2 r 3)) 0) = (nI ww) from (by rw [et, nI_add]; exact ((tget_nI (by omega)).trans (by rw [hj.1 12 (by decide) (by decide) (by decide)])).trans ew)]
        exact mw_of (fun _ => mu_ret rfl trivial ⟨_, _, rfl, rfl, (by unfold rch; rw [if_neg h3, if_pos h10, hq0, et, nI_clamp (by omega)]; exact ew.symm), Or.inr (Or.inl ⟨h10, ww, tv, hww, rfl, ew2, (by have := htv.2; omega)⟩)⟩)
      · -- 129: not ((W 9).2 r 2) = (3 : Int32)
        refine mw_go mu_g125 (k := 2) (f1 := (133, [(5, .inl (nI ii)), (7, .inl (nI y)), (0, .inr (.inr (some m))), (1, .inl (nI r)), (2, .inl (nI i)), (3, .inl ((W 9).2 r 2)), (4, .inl ((W 9).2 r 3)), (6, .inl (nI a))], [.inr (.inr (mu_r H m 11))], H)) (C := [mu_is H (some m) 6]) rfl (show mu_is H (some m) 6 from (show mu_is H (some m) 6 from gi_im h.1 h.2.1)) ?_
        rw [(show mu_r H m 11 = some (m + 23) from (gi_mr h.1 h.2.1 (j := 11) (by decide)).trans (congrArg some (by omega)))]
        refine mw_go mu_g125 (k := 2) (f1 := (136, [(5, .inl (nI ii)), (7, .inl (nI y)), (0, .inr (.inr (some m))), (1, .inl (nI r)), (2, .inl (nI i)), (3, .inl ((W 9).2 r 2)), (4, .inl ((W 9).2 r 3)), (6, .inl (nI a))], [.inl (2 : Int32), .inl (nI ii), .inr (.inr (some (m + 23)))], H)) (C := []) rfl trivial ?_
        refine mw_cIe (fun _ => rfl) (show mu_is H (some (m + 23)) 10 from (h.1.w (md_w11 h.2.1)).1) (dm.getr (d := d) h rfl (j := 11) (by decide) rfl (nI ii) (c := 2) (by decide)) ?_
        rw [show (tget ((ak m H) 11) (nI ii) 2) = (nI (ie W ii)) from ((tget_nI (by omega)).trans (by rw [hj.1 11 (by decide) (by decide) (by decide)])).trans (hW.1 ii hi1).1.2.2.1]
        refine mw_go mu_g125 (k := 5) (f1 := (146, [(7, .inl ((nI (ie W ii)) + ((W 9).2 r 3))), (5, .inl (nI ii)), (0, .inr (.inr (some m))), (1, .inl (nI r)), (2, .inl (nI i)), (3, .inl ((W 9).2 r 2)), (4, .inl ((W 9).2 r 3)), (6, .inl (nI a))], [.inl (1 : Int32), .inl ((W 9).2 r 2)], H)) (C := []) rfl trivial ?_
        refine mw_if (P := ((W 9).2 r 2) = (1 : Int32)) (a := 149) (b := 154) (fun _ => rfl) trivial (fun h14 => ?_) (fun h14 => ?_)
        · -- 149: ((W 9).2 r 2) = (1 : Int32)
          obtain ⟨tv, et, ht1, ht2⟩ := kn1 hkn h14
          refine mw_go mu_g125 (k := 2) (f1 := (167, [(7, .inl ((nI (ie W ii)) + ((W 9).2 r 3))), (5, .inl (nI ii)), (0, .inr (.inr (some m))), (1, .inl (nI r)), (2, .inl (nI i)), (3, .inl ((W 9).2 r 2)), (4, .inl ((W 9).2 r 3)), (6, .inl (nI a))], [.inl ((nI (ie W ii)) + ((W 9).2 r 3))], H)) (C := []) rfl trivial ?_
          have en1 : np W (im W ii) = sp W (im W ii + 1) 1 - sp W (im W ii) 1 := rfl
          have en3 : ndU W (im W ii) = sp W (im W ii + 1) 3 - sp W (im W ii) 3 := rfl
          refine mw_of (fun _ => mu_ret rfl trivial ⟨_, _, rfl, rfl, (by unfold rch; rw [if_neg h3, if_neg h10, if_pos h14, hq0, (hW.1 ii hi1).1.2.2.1]), Or.inr (Or.inr ⟨h3, h10, ie W ii + (tv - sp W (im W ii) 1), by omega, by rw [et, nI_add]⟩)⟩)
        · -- 154: not ((W 9).2 r 2) = (1 : Int32)
          obtain ⟨tv, et, ht1, ht2⟩ := kn2 hkn h3 h10 h14
          refine mw_go mu_g125 (k := 3) (f1 := (160, [(7, .inl ((nI (ie W ii)) + ((W 9).2 r 3))), (5, .inl (nI ii)), (0, .inr (.inr (some m))), (1, .inl (nI r)), (2, .inl (nI i)), (3, .inl ((W 9).2 r 2)), (4, .inl ((W 9).2 r 3)), (6, .inl (nI a))], [.inr (.inr (mu_r H m 11)), .inl ((nI (ie W ii)) + ((W 9).2 r 3))], H)) (C := [mu_is H (some m) 6]) rfl (show mu_is H (some m) 6 from (show mu_is H (some m) 6 from gi_im h.1 h.2.1)) ?_
          rw [(show mu_r H m 11 = some (m + 23) from (gi_mr h.1 h.2.1 (j := 11) (by decide)).trans (congrArg some (by omega)))]
          refine mw_go mu_g125 (k := 2) (f1 := (163, [(7, .inl ((nI (ie W ii)) + ((W 9).2 r 3))), (5, .inl (nI ii)), (0, .inr (.inr (some m))), (1, .inl (nI r)), (2, .inl (nI i)), (3, .inl ((W 9).2 r 2)), (4, .inl ((W 9).2 r 3)), (6, .inl (nI a))], [.inl (3 : Int32), .inl (nI ii), .inr (.inr (some (m + 23))), .inl ((nI (ie W ii)) + ((W 9).2 r 3))], H)) (C := []) rfl trivial ?_
          refine mw_cIe (fun _ => rfl) (show mu_is H (some (m + 23)) 10 from (h.1.w (md_w11 h.2.1)).1) (dm.getr (d := d) h rfl (j := 11) (by decide) rfl (nI ii) (c := 3) (by decide)) ?_
          rw [show (tget ((ak m H) 11) (nI ii) 3) = (nI (np W (im W ii))) from ((tget_nI (by omega)).trans (by rw [hj.1 11 (by decide) (by decide) (by decide)])).trans (hW.1 ii hi1).1.2.2.2]
          refine mw_go mu_g125 (k := 1) (f1 := (167, [(7, .inl ((nI (ie W ii)) + ((W 9).2 r 3))), (5, .inl (nI ii)), (0, .inr (.inr (some m))), (1, .inl (nI r)), (2, .inl (nI i)), (3, .inl ((W 9).2 r 2)), (4, .inl ((W 9).2 r 3)), (6, .inl (nI a))], [.inl (((nI (ie W ii)) + ((W 9).2 r 3)) + (nI (np W (im W ii))))], H)) (C := []) rfl trivial ?_
          have en1 : np W (im W ii) = sp W (im W ii + 1) 1 - sp W (im W ii) 1 := rfl
          have en3 : ndU W (im W ii) = sp W (im W ii + 1) 3 - sp W (im W ii) 3 := rfl
          refine mw_of (fun _ => mu_ret rfl trivial ⟨_, _, rfl, rfl, (by unfold rch; rw [if_neg h3, if_neg h10, if_neg h14, hq0, (hW.1 ii hi1).1.2.2.1, (hW.1 ii hi1).1.2.2.2]), Or.inr (Or.inr ⟨h3, h10, ie W ii + (tv - sp W (im W ii) 3) + np W (im W ii), by omega, by rw [et, nI_add, nI_add]⟩)⟩)
theorem jg_named3 (h : dm m H) (hj : jz W (ak m H)) (hW : JW W) (hi : i < (W 11).1) (hrg : rg W (im W i) false a b) (hp1 : a ≤ p) (hp2 : p < b) : mu_TI (mu_D (d + 3)) 199 [.inr (.inr (some 91)), .inl (nI p), .inl (nI i)] H (fun x H1 => H = H1 ∧ x = nmd W i p ∧ (x = -1 ∨ ∃ e, e < (W 13).1 ∧ x = nI e)) := by
  have b0 := hW.2.2.2.2.2.2 0 (by decide)
  have b9 := hW.2.2.2.2.2.2 9 (by decide)
  have hb0 := hrg.2.1
  obtain ⟨-, -, -, hkM, b1⟩ := hW.inst hi
  obtain ⟨lr1, lr2, lr3⟩ := hW.le hkM (c := 6) (j := 9) (by decide) (by decide) rfl
  refine mu_meth (M := mu_m199) rfl rfl ?_
  refine mw_ht (mu_fn_of (show [0, 1, 2].Nodup by decide)) ?_
  refine mw_go mu_g199 (k := 2) (f1 := (4, [(0, .inr (.inr (some 91))), (1, .inl (nI p)), (2, .inl (nI i))], [.inr (.inr (mu_r H 91 3))], H)) (C := [mu_is H (some 91) 3]) rfl (show mu_is H (some 91) 3 from h.1.is rfl) ?_
  rw [h.2.2.2]
  refine mw_go mu_g199 (k := 1) (f1 := (7, [(0, .inr (.inr (some 91))), (1, .inl (nI p)), (2, .inl (nI i))], [.inr (.inr (mu_r H m 0))], H)) (C := [mu_is H (some m) 6]) rfl (show mu_is H (some m) 6 from (show mu_is H (some m) 6 from gi_im h.1 h.2.1)) ?_
  rw [(show mu_r H m 0 = some (m + 1) from (gi_mr h.1 h.2.1 (j := 0) (by decide)).trans (congrArg some (by omega)))]
  refine mw_go mu_g199 (k := 2) (f1 := (9, [(0, .inr (.inr (some 91))), (1, .inl (nI p)), (2, .inl (nI i))], [.inl (1 : Int32), .inl (nI p), .inr (.inr (some (m + 1)))], H)) (C := []) rfl trivial ?_
  refine mw_cIe (fun _ => rfl) (show mu_is H (some (m + 1)) 10 from (h.1.w (md_w0 h.2.1)).1) (dm.getr (d := (d + 1)) h rfl (j := 0) (by decide) rfl (nI p) (c := 1) (by decide)) ?_
  rw [show (tget ((ak m H) 0) (nI p) 1) = ((W 0).2 p 1) from (tget_nI (by omega)).trans (by rw [hj.1 0 (by decide) (by decide) (by decide)])]
  refine mw_go mu_g199 (k := 3) (f1 := (17, [(3, .inl ((W 0).2 p 1)), (0, .inr (.inr (some 91))), (1, .inl (nI p)), (2, .inl (nI i))], [.inr (.inr (mu_r H 91 3))], H)) (C := [mu_is H (some 91) 3]) rfl (show mu_is H (some 91) 3 from h.1.is rfl) ?_
  rw [h.2.2.2]
  refine mw_go mu_g199 (k := 1) (f1 := (20, [(3, .inl ((W 0).2 p 1)), (0, .inr (.inr (some 91))), (1, .inl (nI p)), (2, .inl (nI i))], [.inr (.inr (mu_r H m 0))], H)) (C := [mu_is H (some m) 6]) rfl (show mu_is H (some m) 6 from (show mu_is H (some m) 6 from gi_im h.1 h.2.1)) ?_
  rw [(show mu_r H m 0 = some (m + 1) from (gi_mr h.1 h.2.1 (j := 0) (by decide)).trans (congrArg some (by omega)))]
  refine mw_go mu_g199 (k := 2) (f1 := (22, [(3, .inl ((W 0).2 p 1)), (0, .inr (.inr (some 91))), (1, .inl (nI p)), (2, .inl (nI i))], [.inl (0 : Int32), .inl (nI p), .inr (.inr (some (m + 1)))], H)) (C := []) rfl trivial ?_
  refine mw_cIe (fun _ => rfl) (show mu_is H (some (m + 1)) 10 from (h.1.w (md_w0 h.2.1)).1) (dm.getr (d := (d + 1)) h rfl (j := 0) (by decide) rfl (nI p) (c := 0) (by decide)) ?_
  rw [show (tget ((ak m H) 0) (nI p) 0) = ((W 0).2 p 0) from (tget_nI (by omega)).trans (by rw [hj.1 0 (by decide) (by decide) (by decide)])]
  refine mw_go mu_g199 (k := 1) (f1 := (26, [(3, .inl ((W 0).2 p 1)), (0, .inr (.inr (some 91))), (1, .inl (nI p)), (2, .inl (nI i))], [.inl (2 : Int32), .inl ((W 0).2 p 0)], H)) (C := []) rfl trivial ?_
  refine mw_if (P := ((W 0).2 p 0) = (2 : Int32)) (a := 47) (b := 29) (fun _ => rfl) trivial (fun h3 => ?_) (fun h3 => ?_)
  · -- 47: ((W 0).2 p 0) = (2 : Int32)
    have hop : (W 0).2 p 0 = 2 ∨ (W 0).2 p 0 = 3 := Or.inl h3
    obtain ⟨r, er, hr1, hr2⟩ := hrg.2.2.2 p hp1 hp2 hop
    have eoa : oa W p = r := by unfold oa; rw [er]; exact nI_clamp (by omega)
    refine mw_go mu_g199 (k := 2) (f1 := (51, [(3, .inl ((W 0).2 p 1)), (0, .inr (.inr (some 91))), (1, .inl (nI p)), (2, .inl (nI i))], [.inr (.inr (mu_r H 91 3))], H)) (C := [mu_is H (some 91) 3]) rfl (show mu_is H (some 91) 3 from h.1.is rfl) ?_
    rw [h.2.2.2]
    refine mw_go mu_g199 (k := 1) (f1 := (54, [(3, .inl ((W 0).2 p 1)), (0, .inr (.inr (some 91))), (1, .inl (nI p)), (2, .inl (nI i))], [.inr (.inr (mu_r H m 9))], H)) (C := [mu_is H (some m) 6]) rfl (show mu_is H (some m) 6 from (show mu_is H (some m) 6 from gi_im h.1 h.2.1)) ?_
    rw [(show mu_r H m 9 = some (m + 19) from (gi_mr h.1 h.2.1 (j := 9) (by decide)).trans (congrArg some (by omega)))]
    refine mw_go mu_g199 (k := 2) (f1 := (56, [(3, .inl ((W 0).2 p 1)), (0, .inr (.inr (some 91))), (1, .inl (nI p)), (2, .inl (nI i))], [.inl (2 : Int32), .inl ((W 0).2 p 1), .inr (.inr (some (m + 19)))], H)) (C := []) rfl trivial ?_
    refine mw_cIe (fun _ => rfl) (show mu_is H (some (m + 19)) 10 from (h.1.w (md_w9 h.2.1)).1) (dm.getr (d := (d + 1)) h rfl (j := 9) (by decide) rfl ((W 0).2 p 1) (c := 2) (by decide)) ?_
    rw [show (tget ((ak m H) 9) ((W 0).2 p 1) 2) = ((W 9).2 r 2) from (by rw [er]; exact (tget_nI (by omega)).trans (by rw [hj.1 9 (by decide) (by decide) (by decide)]))]
    refine mw_go mu_g199 (k := 3) (f1 := (64, [(4, .inl ((W 9).2 r 2)), (3, .inl ((W 0).2 p 1)), (0, .inr (.inr (some 91))), (1, .inl (nI p)), (2, .inl (nI i))], [.inl (1 : Int32), .inl ((W 9).2 r 2)], H)) (C := []) rfl trivial ?_
    refine mw_if (P := ((W 9).2 r 2) = (1 : Int32)) (a := 73) (b := 67) (fun _ => rfl) trivial (fun h5 => ?_) (fun h5 => ?_)
    · -- 73: ((W 9).2 r 2) = (1 : Int32)
      refine mw_go mu_g199 (k := 2) (f1 := (77, [(4, .inl ((W 9).2 r 2)), (3, .inl ((W 0).2 p 1)), (0, .inr (.inr (some 91))), (1, .inl (nI p)), (2, .inl (nI i))], [.inr (.inr (mu_r H 91 3))], H)) (C := [mu_is H (some 91) 3]) rfl (show mu_is H (some 91) 3 from h.1.is rfl) ?_
      rw [h.2.2.2]
      refine mw_go mu_g199 (k := 2) (f1 := (79, [(4, .inl ((W 9).2 r 2)), (3, .inl ((W 0).2 p 1)), (0, .inr (.inr (some 91))), (1, .inl (nI p)), (2, .inl (nI i))], [.inl (nI i), .inl ((W 0).2 p 1), .inr (.inr (some m))], H)) (C := []) rfl trivial ?_
      rw [er]
      refine mw_cI (fun _ => rfl) (show mu_is H (some m) 6 from (show mu_is H (some m) 6 from gi_im h.1 h.2.1)) (dm_reach3 (d := d) h hj hW hi hr1 hr2) (fun x6 H6 q6 => ?_)
      obtain ⟨rfl, rfl, qr6⟩ := q6
      refine mw_go mu_g199 (k := 1) (f1 := (86, [(4, .inl ((W 9).2 r 2)), (3, .inl (nI r)), (0, .inr (.inr (some 91))), (1, .inl (nI p)), (2, .inl (nI i))], [.inl (rch W r i)], H)) (C := []) rfl trivial ?_
      exact mw_of (fun _ => mu_ret rfl trivial ⟨_, _, rfl, rfl, (by unfold nmd; rw [eoa, if_pos ⟨hop, Or.inl h5⟩]), Or.inr (by rcases qr6 with z | ⟨z, -⟩ | ⟨-, -, e, z1, z2⟩; exact absurd (h5.symm.trans z) (by decide); exact absurd (h5.symm.trans z) (by decide); exact ⟨e, z1, z2⟩)⟩)
    · -- 67: not ((W 9).2 r 2) = (1 : Int32)
      refine mw_go mu_g199 (k := 2) (f1 := (70, [(4, .inl ((W 9).2 r 2)), (3, .inl ((W 0).2 p 1)), (0, .inr (.inr (some 91))), (1, .inl (nI p)), (2, .inl (nI i))], [.inl (2 : Int32), .inl ((W 9).2 r 2)], H)) (C := []) rfl trivial ?_
      refine mw_if (P := ((W 9).2 r 2) = (2 : Int32)) (a := 73) (b := 85) (fun _ => rfl) trivial (fun h7 => ?_) (fun h7 => ?_)
      · -- 73: ((W 9).2 r 2) = (2 : Int32)
        refine mw_go mu_g199 (k := 2) (f1 := (77, [(4, .inl ((W 9).2 r 2)), (3, .inl ((W 0).2 p 1)), (0, .inr (.inr (some 91))), (1, .inl (nI p)), (2, .inl (nI i))], [.inr (.inr (mu_r H 91 3))], H)) (C := [mu_is H (some 91) 3]) rfl (show mu_is H (some 91) 3 from h.1.is rfl) ?_
        rw [h.2.2.2]
        refine mw_go mu_g199 (k := 2) (f1 := (79, [(4, .inl ((W 9).2 r 2)), (3, .inl ((W 0).2 p 1)), (0, .inr (.inr (some 91))), (1, .inl (nI p)), (2, .inl (nI i))], [.inl (nI i), .inl ((W 0).2 p 1), .inr (.inr (some m))], H)) (C := []) rfl trivial ?_
        rw [er]
        refine mw_cI (fun _ => rfl) (show mu_is H (some m) 6 from (show mu_is H (some m) 6 from gi_im h.1 h.2.1)) (dm_reach3 (d := d) h hj hW hi hr1 hr2) (fun x8 H8 q8 => ?_)
        obtain ⟨rfl, rfl, qr8⟩ := q8
        refine mw_go mu_g199 (k := 1) (f1 := (86, [(4, .inl ((W 9).2 r 2)), (3, .inl (nI r)), (0, .inr (.inr (some 91))), (1, .inl (nI p)), (2, .inl (nI i))], [.inl (rch W r i)], H)) (C := []) rfl trivial ?_
        exact mw_of (fun _ => mu_ret rfl trivial ⟨_, _, rfl, rfl, (by unfold nmd; rw [eoa, if_pos ⟨hop, Or.inr h7⟩]), Or.inr (by rcases qr8 with z | ⟨z, -⟩ | ⟨-, -, e, z1, z2⟩; exact absurd (h7.symm.trans z) (by decide); exact absurd (h7.symm.trans z) (by decide); exact ⟨e, z1, z2⟩)⟩)
      · -- 85: not ((W 9).2 r 2) = (2 : Int32)
        refine mw_go mu_g199 (k := 1) (f1 := (86, [(4, .inl ((W 9).2 r 2)), (3, .inl ((W 0).2 p 1)), (0, .inr (.inr (some 91))), (1, .inl (nI p)), (2, .inl (nI i))], [.inl (-1 : Int32)], H)) (C := []) rfl trivial ?_
        exact mw_of (fun _ => mu_ret rfl trivial ⟨_, _, rfl, rfl, (by unfold nmd; rw [eoa]; exact (if_neg (by rintro ⟨-, z | z⟩; exact h5 z; exact h7 z)).symm), Or.inl rfl⟩)
  · -- 29: not ((W 0).2 p 0) = (2 : Int32)
    refine mw_go mu_g199 (k := 2) (f1 := (33, [(3, .inl ((W 0).2 p 1)), (0, .inr (.inr (some 91))), (1, .inl (nI p)), (2, .inl (nI i))], [.inr (.inr (mu_r H 91 3))], H)) (C := [mu_is H (some 91) 3]) rfl (show mu_is H (some 91) 3 from h.1.is rfl) ?_
    rw [h.2.2.2]
    refine mw_go mu_g199 (k := 1) (f1 := (36, [(3, .inl ((W 0).2 p 1)), (0, .inr (.inr (some 91))), (1, .inl (nI p)), (2, .inl (nI i))], [.inr (.inr (mu_r H m 0))], H)) (C := [mu_is H (some m) 6]) rfl (show mu_is H (some m) 6 from (show mu_is H (some m) 6 from gi_im h.1 h.2.1)) ?_
    rw [(show mu_r H m 0 = some (m + 1) from (gi_mr h.1 h.2.1 (j := 0) (by decide)).trans (congrArg some (by omega)))]
    refine mw_go mu_g199 (k := 2) (f1 := (38, [(3, .inl ((W 0).2 p 1)), (0, .inr (.inr (some 91))), (1, .inl (nI p)), (2, .inl (nI i))], [.inl (0 : Int32), .inl (nI p), .inr (.inr (some (m + 1)))], H)) (C := []) rfl trivial ?_
    refine mw_cIe (fun _ => rfl) (show mu_is H (some (m + 1)) 10 from (h.1.w (md_w0 h.2.1)).1) (dm.getr (d := (d + 1)) h rfl (j := 0) (by decide) rfl (nI p) (c := 0) (by decide)) ?_
    rw [show (tget ((ak m H) 0) (nI p) 0) = ((W 0).2 p 0) from (tget_nI (by omega)).trans (by rw [hj.1 0 (by decide) (by decide) (by decide)])]
    refine mw_go mu_g199 (k := 1) (f1 := (42, [(3, .inl ((W 0).2 p 1)), (0, .inr (.inr (some 91))), (1, .inl (nI p)), (2, .inl (nI i))], [.inl (3 : Int32), .inl ((W 0).2 p 0)], H)) (C := []) rfl trivial ?_
    refine mw_if (P := ((W 0).2 p 0) = (3 : Int32)) (a := 47) (b := 45) (fun _ => rfl) trivial (fun h10 => ?_) (fun h10 => ?_)
    · -- 47: ((W 0).2 p 0) = (3 : Int32)
      have hop : (W 0).2 p 0 = 2 ∨ (W 0).2 p 0 = 3 := Or.inr h10
      obtain ⟨r, er, hr1, hr2⟩ := hrg.2.2.2 p hp1 hp2 hop
      have eoa : oa W p = r := by unfold oa; rw [er]; exact nI_clamp (by omega)
      refine mw_go mu_g199 (k := 2) (f1 := (51, [(3, .inl ((W 0).2 p 1)), (0, .inr (.inr (some 91))), (1, .inl (nI p)), (2, .inl (nI i))], [.inr (.inr (mu_r H 91 3))], H)) (C := [mu_is H (some 91) 3]) rfl (show mu_is H (some 91) 3 from h.1.is rfl) ?_
      rw [h.2.2.2]
      refine mw_go mu_g199 (k := 1) (f1 := (54, [(3, .inl ((W 0).2 p 1)), (0, .inr (.inr (some 91))), (1, .inl (nI p)), (2, .inl (nI i))], [.inr (.inr (mu_r H m 9))], H)) (C := [mu_is H (some m) 6]) rfl (show mu_is H (some m) 6 from (show mu_is H (some m) 6 from gi_im h.1 h.2.1)) ?_
      rw [(show mu_r H m 9 = some (m + 19) from (gi_mr h.1 h.2.1 (j := 9) (by decide)).trans (congrArg some (by omega)))]
      refine mw_go mu_g199 (k := 2) (f1 := (56, [(3, .inl ((W 0).2 p 1)), (0, .inr (.inr (some 91))), (1, .inl (nI p)), (2, .inl (nI i))], [.inl (2 : Int32), .inl ((W 0).2 p 1), .inr (.inr (some (m + 19)))], H)) (C := []) rfl trivial ?_
      refine mw_cIe (fun _ => rfl) (show mu_is H (some (m + 19)) 10 from (h.1.w (md_w9 h.2.1)).1) (dm.getr (d := (d + 1)) h rfl (j := 9) (by decide) rfl ((W 0).2 p 1) (c := 2) (by decide)) ?_
      rw [show (tget ((ak m H) 9) ((W 0).2 p 1) 2) = ((W 9).2 r 2) from (by rw [er]; exact (tget_nI (by omega)).trans (by rw [hj.1 9 (by decide) (by decide) (by decide)]))]
      refine mw_go mu_g199 (k := 3) (f1 := (64, [(4, .inl ((W 9).2 r 2)), (3, .inl ((W 0).2 p 1)), (0, .inr (.inr (some 91))), (1, .inl (nI p)), (2, .inl (nI i))], [.inl (1 : Int32), .inl ((W 9).2 r 2)], H)) (C := []) rfl trivial ?_
      refine mw_if (P := ((W 9).2 r 2) = (1 : Int32)) (a := 73) (b := 67) (fun _ => rfl) trivial (fun h12 => ?_) (fun h12 => ?_)
      · -- 73: ((W 9).2 r 2) = (1 : Int32)
        refine mw_go mu_g199 (k := 2) (f1 := (77, [(4, .inl ((W 9).2 r 2)), (3, .inl ((W 0).2 p 1)), (0, .inr (.inr (some 91))), (1, .inl (nI p)), (2, .inl (nI i))], [.inr (.inr (mu_r H 91 3))], H)) (C := [mu_is H (some 91) 3]) rfl (show mu_is H (some 91) 3 from h.1.is rfl) ?_
        rw [h.2.2.2]
        refine mw_go mu_g199 (k := 2) (f1 := (79, [(4, .inl ((W 9).2 r 2)), (3, .inl ((W 0).2 p 1)), (0, .inr (.inr (some 91))), (1, .inl (nI p)), (2, .inl (nI i))], [.inl (nI i), .inl ((W 0).2 p 1), .inr (.inr (some m))], H)) (C := []) rfl trivial ?_
        rw [er]
        refine mw_cI (fun _ => rfl) (show mu_is H (some m) 6 from (show mu_is H (some m) 6 from gi_im h.1 h.2.1)) (dm_reach3 (d := d) h hj hW hi hr1 hr2) (fun x13 H13 q13 => ?_)
        obtain ⟨rfl, rfl, qr13⟩ := q13
        refine mw_go mu_g199 (k := 1) (f1 := (86, [(4, .inl ((W 9).2 r 2)), (3, .inl (nI r)), (0, .inr (.inr (some 91))), (1, .inl (nI p)), (2, .inl (nI i))], [.inl (rch W r i)], H)) (C := []) rfl trivial ?_
        exact mw_of (fun _ => mu_ret rfl trivial ⟨_, _, rfl, rfl, (by unfold nmd; rw [eoa, if_pos ⟨hop, Or.inl h12⟩]), Or.inr (by rcases qr13 with z | ⟨z, -⟩ | ⟨-, -, e, z1, z2⟩; exact absurd (h12.symm.trans z) (by decide); exact absurd (h12.symm.trans z) (by decide); exact ⟨e, z1, z2⟩)⟩)
      · -- 67: not ((W 9).2 r 2) = (1 : Int32)
        refine mw_go mu_g199 (k := 2) (f1 := (70, [(4, .inl ((W 9).2 r 2)), (3, .inl ((W 0).2 p 1)), (0, .inr (.inr (some 91))), (1, .inl (nI p)), (2, .inl (nI i))], [.inl (2 : Int32), .inl ((W 9).2 r 2)], H)) (C := []) rfl trivial ?_
        refine mw_if (P := ((W 9).2 r 2) = (2 : Int32)) (a := 73) (b := 85) (fun _ => rfl) trivial (fun h14 => ?_) (fun h14 => ?_)
        · -- 73: ((W 9).2 r 2) = (2 : Int32)
          refine mw_go mu_g199 (k := 2) (f1 := (77, [(4, .inl ((W 9).2 r 2)), (3, .inl ((W 0).2 p 1)), (0, .inr (.inr (some 91))), (1, .inl (nI p)), (2, .inl (nI i))], [.inr (.inr (mu_r H 91 3))], H)) (C := [mu_is H (some 91) 3]) rfl (show mu_is H (some 91) 3 from h.1.is rfl) ?_
          rw [h.2.2.2]
          refine mw_go mu_g199 (k := 2) (f1 := (79, [(4, .inl ((W 9).2 r 2)), (3, .inl ((W 0).2 p 1)), (0, .inr (.inr (some 91))), (1, .inl (nI p)), (2, .inl (nI i))], [.inl (nI i), .inl ((W 0).2 p 1), .inr (.inr (some m))], H)) (C := []) rfl trivial ?_
          rw [er]
          refine mw_cI (fun _ => rfl) (show mu_is H (some m) 6 from (show mu_is H (some m) 6 from gi_im h.1 h.2.1)) (dm_reach3 (d := d) h hj hW hi hr1 hr2) (fun x15 H15 q15 => ?_)
          obtain ⟨rfl, rfl, qr15⟩ := q15
          refine mw_go mu_g199 (k := 1) (f1 := (86, [(4, .inl ((W 9).2 r 2)), (3, .inl (nI r)), (0, .inr (.inr (some 91))), (1, .inl (nI p)), (2, .inl (nI i))], [.inl (rch W r i)], H)) (C := []) rfl trivial ?_
          exact mw_of (fun _ => mu_ret rfl trivial ⟨_, _, rfl, rfl, (by unfold nmd; rw [eoa, if_pos ⟨hop, Or.inr h14⟩]), Or.inr (by rcases qr15 with z | ⟨z, -⟩ | ⟨-, -, e, z1, z2⟩; exact absurd (h14.symm.trans z) (by decide); exact absurd (h14.symm.trans z) (by decide); exact ⟨e, z1, z2⟩)⟩)
        · -- 85: not ((W 9).2 r 2) = (2 : Int32)
          refine mw_go mu_g199 (k := 1) (f1 := (86, [(4, .inl ((W 9).2 r 2)), (3, .inl ((W 0).2 p 1)), (0, .inr (.inr (some 91))), (1, .inl (nI p)), (2, .inl (nI i))], [.inl (-1 : Int32)], H)) (C := []) rfl trivial ?_
          exact mw_of (fun _ => mu_ret rfl trivial ⟨_, _, rfl, rfl, (by unfold nmd; rw [eoa]; exact (if_neg (by rintro ⟨-, z | z⟩; exact h12 z; exact h14 z)).symm), Or.inl rfl⟩)
    · -- 45: not ((W 0).2 p 0) = (3 : Int32)
      refine mw_go mu_g199 (k := 1) (f1 := (46, [(3, .inl ((W 0).2 p 1)), (0, .inr (.inr (some 91))), (1, .inl (nI p)), (2, .inl (nI i))], [.inl (-1 : Int32)], H)) (C := []) rfl trivial ?_
      exact mw_of (fun _ => mu_ret rfl trivial ⟨_, _, rfl, rfl, (by unfold nmd; exact (if_neg (by rintro ⟨z | z, -⟩; exact h3 z; exact h10 z)).symm), Or.inl rfl⟩)
theorem jg_enter3 (h : dm m H) (hV : VO W (ak m H)) (hW : JW W) (he : e < (W 13).1) (h0 : sn (ak m H) e = 0) (hC14 : 2 * (((W 13).1 + 1) * 1) + 1 ≤ C 14) (hC14b : C 14 ≤ 8388608) (hC20 : 2 * (((W 13).1 + 1) * 2) + 2 ≤ C 20) (hC20b : C 20 ≤ 8388608) : mu_TV (mu_D (d + 4)) 201 [.inr (.inr (some 91)), .inl (nI e)] H (fun H1 => dm m H1 ∧ rl m C H H1 ∧ (∀ z, mu_i H1 95 z = mu_i H 95 z) ∧ ak m H1 = ap 20 (ax 13 (ak m H) (nI e) 5 1) (nI e) (nI (ea W e)) 0 0) := by
  have b13 := hW.2.2.2.2.2.2 13 (by decide)
  obtain ⟨ya, yb, yi, y1, y2, y3, y4, y5, y6, y7⟩ := hW.ent he
  have y8 := y5.1
  refine mu_meth (M := mu_m201) rfl rfl ?_
  refine mw_ht (mu_fn_of (show [0, 1].Nodup by decide)) ?_
  refine mw_go mu_g201 (k := 2) (f1 := (4, [(0, .inr (.inr (some 91))), (1, .inl (nI e))], [.inr (.inr (mu_r H 91 3))], H)) (C := [mu_is H (some 91) 3]) rfl (show mu_is H (some 91) 3 from h.1.is rfl) ?_
  rw [h.2.2.2]
  refine mw_go mu_g201 (k := 1) (f1 := (7, [(0, .inr (.inr (some 91))), (1, .inl (nI e))], [.inr (.inr (mu_r H m 13))], H)) (C := [mu_is H (some m) 6]) rfl (show mu_is H (some m) 6 from (show mu_is H (some m) 6 from gi_im h.1 h.2.1)) ?_
  rw [(show mu_r H m 13 = some (m + 27) from (gi_mr h.1 h.2.1 (j := 13) (by decide)).trans (congrArg some (by omega)))]
  refine mw_go mu_g201 (k := 3) (f1 := (10, [(0, .inr (.inr (some 91))), (1, .inl (nI e))], [.inl (1 : Int32), .inl (5 : Int32), .inl (nI e), .inr (.inr (some (m + 27)))], H)) (C := []) rfl trivial ?_
  refine mw_cV (fun _ => rfl) (show mu_is H (some (m + 27)) 10 from (h.1.w (md_w13 h.2.1)).1) (dm.setr (C := C) (d := (d + 2)) h rfl (j := 13) (by decide) rfl (nI e) (1 : Int32) (c := 5) (by decide)) (fun H1 q1 => ?_)
  obtain ⟨hp1, qt1, ha1, qh1⟩ := q1
  have ht1 := (rl.refl m C H).trans qt1
  refine mw_go mu_g201 (k := 2) (f1 := (17, [(0, .inr (.inr (some 91))), (1, .inl (nI e))], [.inr (.inr (mu_r H1 91 1))], H1)) (C := [mu_is H1 (some 91) 3]) rfl (show mu_is H1 (some 91) 3 from hp1.1.is rfl) ?_
  rw [(hp1.1.r (p := 91) (j := 1) (q := 96) rfl)]
  refine mw_go mu_g201 (k := 3) (f1 := (22, [(0, .inr (.inr (some 91))), (1, .inl (nI e))], [.inr (.inr (mu_r H1 91 3)), .inl (nI e), .inr (.inr (some 96))], H1)) (C := [mu_is H1 (some 91) 3]) rfl (show mu_is H1 (some 91) 3 from hp1.1.is rfl) ?_
  rw [hp1.2.2.2]
  refine mw_go mu_g201 (k := 1) (f1 := (25, [(0, .inr (.inr (some 91))), (1, .inl (nI e))], [.inr (.inr (mu_r H1 m 13)), .inl (nI e), .inr (.inr (some 96))], H1)) (C := [mu_is H1 (some m) 6]) rfl (show mu_is H1 (some m) 6 from (show mu_is H1 (some m) 6 from gi_im hp1.1 hp1.2.1)) ?_
  rw [(show mu_r H1 m 13 = some (m + 27) from (gi_mr hp1.1 hp1.2.1 (j := 13) (by decide)).trans (congrArg some (by omega)))]
  refine mw_go mu_g201 (k := 2) (f1 := (27, [(0, .inr (.inr (some 91))), (1, .inl (nI e))], [.inl (0 : Int32), .inl (nI e), .inr (.inr (some (m + 27))), .inl (nI e), .inr (.inr (some 96))], H1)) (C := []) rfl trivial ?_
  refine mw_cIe (fun _ => rfl) (show mu_is H1 (some (m + 27)) 10 from (hp1.1.w (md_w13 hp1.2.1)).1) (dm.getr (d := (d + 2)) hp1 ha1 (j := 13) (by decide) rfl (nI e) (c := 0) (by decide)) ?_
  rw [show (tget ((ax 13 (ak m H) (nI e) 5 (1 : Int32)) 13) (nI e) 0) = (nI (ea W e)) from (tget_nI (by omega)).trans (by rw [ax_c (fun _ _ => by decide), hV.1.2.2 e 0 (by decide)]; rw [y1, y6])]
  refine mw_go mu_g201 (k := 2) (f1 := (32, [(0, .inr (.inr (some 91))), (1, .inl (nI e))], [.inl (0 : Int32), .inl (0 : Int32), .inl (nI (ea W e)), .inl (nI e), .inr (.inr (some 96))], H1)) (C := []) rfl trivial ?_
  refine mw_cI (fun _ => rfl) (show mu_is H1 (some 96) 10 from hp1.1.is rfl) (dm.putr (C := C) (d := d) hp1 ha1 (j := 20) (by decide) rfl (nI e) (nI (ea W e)) (0 : Int32) (0 : Int32) (by have z2 := hV.2.2.2.2.2; have z3 := cv_le (s := ak m H) (v := 1) (n := (W 13).1); have z4 : (((ax 13 (ak m H) (nI e) 5 (1 : Int32))) 20).1 = (ak m H 20).1 := (by rw [ax_ne (by decide)]); show 2 * (((((ax 13 (ak m H) (nI e) 5 (1 : Int32))) 20).1 + 1) * 2) + 2 ≤ C 20; omega) hC20b) (fun x3 H3 q3 => ?_)
  obtain ⟨rfl, hp3, qt3, ha3, qh3⟩ := q3
  have ht3 := ht1.trans qt3
  refine mw_go mu_g201 (k := 1) (f1 := (36, [(0, .inr (.inr (some 91))), (1, .inl (nI e))], [], H3)) (C := []) rfl trivial ?_
  exact mw_of (fun _ => mu_ret rfl trivial ⟨H3, rfl, hp3, ht3, fun z => (qh3 z).trans (qh1 z), ha3⟩)
theorem jg_next3 (h : dm m H) (hV : VO W (ak m H)) (hW : JW W) (hr0 : r0 + 1 = (ak m H 20).1) : mu_TI (mu_D (d + 4)) 202 [.inr (.inr (some 91)), .inl (nI r0)] H (fun x H1 => (x = -1 ∧ H = H1 ∧ ∀ q e3, oq (ak m H) r0 ≤ q → prt W (oe (ak m H) r0) q e3 → sn (ak m H) e3 = 2) ∨ (∃ e2 p, x = nI e2 ∧ e2 < (W 13).1 ∧ dm m H1 ∧ rl m C H H1 ∧ (∀ z, mu_i H1 95 z = mu_i H 95 z) ∧ ak m H1 = ax 20 (ak m H) (nI r0) 1 (nI (p + 1)) ∧ p + 1 < 2147483648 ∧ ea W (oe (ak m H) r0) ≤ p ∧ ¬ sn (ak m H) e2 = 2 ∧ (∀ q e3, oq (ak m H) r0 ≤ q → q < p → prt W (oe (ak m H) r0) q e3 → sn (ak m H) e3 = 2) ∧ ∀ e3, prt W (oe (ak m H) r0) p e3 → e3 = e2)) := by
  have b13 := hW.2.2.2.2.2.2 13 (by decide)
  have hz20 : (ak m H 20).1 ≤ 67108864 := by have z2 := hV.2.2.2.2.2; have z3 := cv_le (s := ak m H) (v := 1) (n := (W 13).1); omega
  obtain ⟨⟨o1, o2⟩, o3, o4, o5, o6, o7⟩ := hV.2.2.2.1 r0 (by omega)
  obtain ⟨e, heo⟩ : ∃ e, e = oe (ak m H) r0 := ⟨_, rfl⟩
  rw [← heo] at o1 o3 o4 o5
  obtain ⟨ya, yb, yi, y1, y2, y3, y4, y5, y6, y7⟩ := hW.ent o3
  rw [y6] at o5
  have y8 := y5.1
  have b11 := hW.2.2.2.2.2.2 11 (by decide)
  obtain ⟨k1, k2, k3⟩ := en_of hW o3 y1 y2 y3 y7 y4 y8
  refine mu_meth (M := mu_m202) rfl rfl ?_
  refine mw_ht (mu_fn_of (show [0, 1].Nodup by decide)) ?_
  refine mw_go mu_g202 (k := 2) (f1 := (4, [(0, .inr (.inr (some 91))), (1, .inl (nI r0))], [.inr (.inr (mu_r H 91 1))], H)) (C := [mu_is H (some 91) 3]) rfl (show mu_is H (some 91) 3 from h.1.is rfl) ?_
  rw [(h.1.r (p := 91) (j := 1) (q := 96) rfl)]
  refine mw_go mu_g202 (k := 2) (f1 := (6, [(0, .inr (.inr (some 91))), (1, .inl (nI r0))], [.inl (0 : Int32), .inl (nI r0), .inr (.inr (some 96))], H)) (C := []) rfl trivial ?_
  refine mw_cIe (fun _ => rfl) (show mu_is H (some 96) 10 from h.1.is rfl) (dm.getr (d := (d + 2)) h rfl (j := 20) (by decide) rfl (nI r0) (c := 0) (by decide)) ?_
  rw [show (tget ((ak m H) 20) (nI r0) 0) = (nI e) from (tget_nI (by omega)).trans o1]
  refine mw_go mu_g202 (k := 3) (f1 := (14, [(2, .inl (nI e)), (0, .inr (.inr (some 91))), (1, .inl (nI r0))], [.inr (.inr (mu_r H 91 3))], H)) (C := [mu_is H (some 91) 3]) rfl (show mu_is H (some 91) 3 from h.1.is rfl) ?_
  rw [h.2.2.2]
  refine mw_go mu_g202 (k := 1) (f1 := (17, [(2, .inl (nI e)), (0, .inr (.inr (some 91))), (1, .inl (nI r0))], [.inr (.inr (mu_r H m 13))], H)) (C := [mu_is H (some m) 6]) rfl (show mu_is H (some m) 6 from (show mu_is H (some m) 6 from gi_im h.1 h.2.1)) ?_
  rw [(show mu_r H m 13 = some (m + 27) from (gi_mr h.1 h.2.1 (j := 13) (by decide)).trans (congrArg some (by omega)))]
  refine mw_go mu_g202 (k := 2) (f1 := (19, [(2, .inl (nI e)), (0, .inr (.inr (some 91))), (1, .inl (nI r0))], [.inl (2 : Int32), .inl (nI e), .inr (.inr (some (m + 27)))], H)) (C := []) rfl trivial ?_
  refine mw_cIe (fun _ => rfl) (show mu_is H (some (m + 27)) 10 from (h.1.w (md_w13 h.2.1)).1) (dm.getr (d := (d + 2)) h rfl (j := 13) (by decide) rfl (nI e) (c := 2) (by decide)) ?_
  rw [show (tget ((ak m H) 13) (nI e) 2) = (nI yi) from (tget_nI (by omega)).trans ((hV.1.2.2 e 2 (by decide)).trans y3)]
  refine mw_go mu_g202 (k := 3) (f1 := (27, [(3, .inl (nI yi)), (2, .inl (nI e)), (0, .inr (.inr (some 91))), (1, .inl (nI r0))], [.inr (.inr (mu_r H 91 1))], H)) (C := [mu_is H (some 91) 3]) rfl (show mu_is H (some 91) 3 from h.1.is rfl) ?_
  rw [(h.1.r (p := 91) (j := 1) (q := 96) rfl)]
  refine mw_go mu_g202 (k := 2) (f1 := (29, [(3, .inl (nI yi)), (2, .inl (nI e)), (0, .inr (.inr (some 91))), (1, .inl (nI r0))], [.inl (1 : Int32), .inl (nI r0), .inr (.inr (some 96))], H)) (C := []) rfl trivial ?_
  refine mw_cIe (fun _ => rfl) (show mu_is H (some 96) 10 from h.1.is rfl) (dm.getr (d := (d + 2)) h rfl (j := 20) (by decide) rfl (nI r0) (c := 1) (by decide)) ?_
  rw [show (tget ((ak m H) 20) (nI r0) 1) = (nI (oq (ak m H) r0)) from (tget_nI (by omega)).trans o2]
  refine mw_go mu_g202 (k := 1) (f1 := (34, [(4, .inl (nI (oq (ak m H) r0))), (3, .inl (nI yi)), (2, .inl (nI e)), (0, .inr (.inr (some 91))), (1, .inl (nI r0))], [], H)) (C := []) rfl trivial ?_
  refine mw_sub (L' := [(4, .inl (nI (oq (ak m H) r0))), (0, .inr (.inr (some 91))), (1, .inl (nI r0)), (2, .inl (nI e)), (3, .inl (nI yi))]) (by simp) ?_
  refine mw_down (α := Nat) (fun zs => (34, [(4, .inl (nI zs)), (0, .inr (.inr (some 91))), (1, .inl (nI r0)), (2, .inl (nI e)), (3, .inl (nI yi))], [], H)) (fun zs => 2147483648 - zs) (fun zs => (ya ≤ zs) ∧ (zs < 2147483648) ∧ (zs ≤ 2147483647) ∧ (∀ q e3, oq (ak m H) r0 ≤ q → q < zs → prt W (oe (ak m H) r0) q e3 → sn (ak m H) e3 = 2)) (fun zs hs ih => ?_) (oq (ak m H) r0) ⟨(show ya ≤ (oq (ak m H) r0) from by omega), (show (oq (ak m H) r0) < 2147483648 from by omega), (show (oq (ak m H) r0) ≤ 2147483647 from by omega), (show ∀ q e3, oq (ak m H) r0 ≤ q → q < (oq (ak m H) r0) → prt W (oe (ak m H) r0) q e3 → sn (ak m H) e3 = 2 from (fun q e3 h1 h2 => absurd h2 (by omega)))⟩
  obtain ⟨p, rfl⟩ : ∃ y, y = zs := ⟨zs, rfl⟩
  obtain ⟨hp1, hp2, hp3, hpa⟩ := hs
  have hp1 : ya ≤ p := hp1
  have hp2 : p < 2147483648 := hp2
  have hp3 : p ≤ 2147483647 := hp3
  have hpa : ∀ q e3, oq (ak m H) r0 ≤ q → q < p → prt W (oe (ak m H) r0) q e3 → sn (ak m H) e3 = 2 := hpa
  show mu_W _ _ (34, [(4, .inl (nI p)), (0, .inr (.inr (some 91))), (1, .inl (nI r0)), (2, .inl (nI e)), (3, .inl (nI yi))], [], H) _
  refine mw_go mu_g202 (k := 3) (f1 := (40, [(4, .inl (nI p)), (0, .inr (.inr (some 91))), (1, .inl (nI r0)), (2, .inl (nI e)), (3, .inl (nI yi))], [.inr (.inr (mu_r H 91 3)), .inl (nI p)], H)) (C := [mu_is H (some 91) 3]) rfl (show mu_is H (some 91) 3 from h.1.is rfl) ?_
  rw [h.2.2.2]
  refine mw_go mu_g202 (k := 1) (f1 := (43, [(4, .inl (nI p)), (0, .inr (.inr (some 91))), (1, .inl (nI r0)), (2, .inl (nI e)), (3, .inl (nI yi))], [.inr (.inr (mu_r H m 13)), .inl (nI p)], H)) (C := [mu_is H (some m) 6]) rfl (show mu_is H (some m) 6 from (show mu_is H (some m) 6 from gi_im h.1 h.2.1)) ?_
  rw [(show mu_r H m 13 = some (m + 27) from (gi_mr h.1 h.2.1 (j := 13) (by decide)).trans (congrArg some (by omega)))]
  refine mw_go mu_g202 (k := 2) (f1 := (45, [(4, .inl (nI p)), (0, .inr (.inr (some 91))), (1, .inl (nI r0)), (2, .inl (nI e)), (3, .inl (nI yi))], [.inl (1 : Int32), .inl (nI e), .inr (.inr (some (m + 27))), .inl (nI p)], H)) (C := []) rfl trivial ?_
  refine mw_cIe (fun _ => rfl) (show mu_is H (some (m + 27)) 10 from (h.1.w (md_w13 h.2.1)).1) (dm.getr (d := (d + 2)) h rfl (j := 13) (by decide) rfl (nI e) (c := 1) (by decide)) ?_
  rw [show (tget ((ak m H) 13) (nI e) 1) = (nI yb) from (tget_nI (by omega)).trans ((hV.1.2.2 e 1 (by decide)).trans y2)]
  refine mw_if (P := (nI p) < (nI yb)) (a := 51) (b := 104) (fun _ => rfl) trivial (fun h5 => ?_) (fun h5 => ?_)
  · -- 51: (nI p) < (nI yb)
    have hpb : p < yb := (nI_ltI (by omega) (by omega)).mp h5
    refine mw_go mu_g202 (k := 3) (f1 := (55, [(4, .inl (nI p)), (0, .inr (.inr (some 91))), (1, .inl (nI r0)), (2, .inl (nI e)), (3, .inl (nI yi))], [.inl (nI yi), .inl (nI p), .inr (.inr (some 91))], H)) (C := []) rfl trivial ?_
    refine mw_cI (fun _ => rfl) (show mu_is H (some 91) 3 from h.1.is rfl) ((jg_named3 (d := d) (W := W) (a := ya) (b := yb) h hV.1 hW y4 y5 (by omega) hpb).imp (fun x H1 z => show (x = -1 ∧ H = H1 ∧ x = nmd W yi p) ∨ (∃ e2, e2 < (W 13).1 ∧ x = nI e2 ∧ H = H1 ∧ x = nmd W yi p) from z.2.2.imp (fun y => ⟨y, z.1, z.2.1⟩) (fun ⟨e2, y1, y2⟩ => ⟨e2, y1, y2, z.1, z.2.1⟩))) (fun x6 H6 q6 => ?_)
    rcases q6 with ⟨rfl, rfl, hnm⟩ | ⟨e2, he2, rfl, rfl, hnm⟩
    · -- (-1 : Int32)
      refine mw_go mu_g202 (k := 2) (f1 := (62, [(5, .inl (-1 : Int32)), (4, .inl (nI p)), (0, .inr (.inr (some 91))), (1, .inl (nI r0)), (2, .inl (nI e)), (3, .inl (nI yi))], [.inl (-1 : Int32)], H)) (C := []) rfl trivial ?_
      refine mw_if (P := (-1 : Int32) < 0) (a := 98) (b := 65) (fun _ => rfl) trivial (fun h7 => ?_) (fun h7 => absurd (by decide) h7)
      refine mw_go mu_g202 (k := 2) (f1 := (34, [(4, .inl ((nI p) + 1)), (5, .inl (-1 : Int32)), (0, .inr (.inr (some 91))), (1, .inl (nI r0)), (2, .inl (nI e)), (3, .inl (nI yi))], [], H)) (C := []) rfl trivial ?_
      rw [nI_1 p]
      exact mw_sub (by simp) (ih (p + 1) ⟨(show ya ≤ (p + 1) from by omega), (show (p + 1) < 2147483648 from by omega), (show (p + 1) ≤ 2147483647 from by omega), (show ∀ q e3, oq (ak m H) r0 ≤ q → q < (p + 1) → prt W (oe (ak m H) r0) q e3 → sn (ak m H) e3 = 2 from (fun q e3 h1 h2 hx => by by_cases eq : q = p; (subst eq; have := hx.2.2.2; rw [← heo, k3, ← hnm] at this; exact absurd this.symm (nI_neg1 (by have := hx.2.2.1; omega))); exact hpa q e3 h1 (by omega) hx))⟩ (by show 2147483648 - (p + 1) < 2147483648 - p; omega))
    · -- (nI e2)
      refine mw_go mu_g202 (k := 2) (f1 := (62, [(5, .inl (nI e2)), (4, .inl (nI p)), (0, .inr (.inr (some 91))), (1, .inl (nI r0)), (2, .inl (nI e)), (3, .inl (nI yi))], [.inl (nI e2)], H)) (C := []) rfl trivial ?_
      refine mw_if (P := (nI e2) < 0) (a := 98) (b := 65) (fun _ => rfl) trivial (fun h8 => ?_) (fun h8 => ?_)
      · -- 98: (nI e2) < 0
        exact absurd h8 (nI_pos (by omega))
      · -- 65: not (nI e2) < 0
        refine mw_go mu_g202 (k := 2) (f1 := (69, [(5, .inl (nI e2)), (4, .inl (nI p)), (0, .inr (.inr (some 91))), (1, .inl (nI r0)), (2, .inl (nI e)), (3, .inl (nI yi))], [.inr (.inr (mu_r H 91 3))], H)) (C := [mu_is H (some 91) 3]) rfl (show mu_is H (some 91) 3 from h.1.is rfl) ?_
        rw [h.2.2.2]
        refine mw_go mu_g202 (k := 1) (f1 := (72, [(5, .inl (nI e2)), (4, .inl (nI p)), (0, .inr (.inr (some 91))), (1, .inl (nI r0)), (2, .inl (nI e)), (3, .inl (nI yi))], [.inr (.inr (mu_r H m 13))], H)) (C := [mu_is H (some m) 6]) rfl (show mu_is H (some m) 6 from (show mu_is H (some m) 6 from gi_im h.1 h.2.1)) ?_
        rw [(show mu_r H m 13 = some (m + 27) from (gi_mr h.1 h.2.1 (j := 13) (by decide)).trans (congrArg some (by omega)))]
        refine mw_go mu_g202 (k := 2) (f1 := (75, [(5, .inl (nI e2)), (4, .inl (nI p)), (0, .inr (.inr (some 91))), (1, .inl (nI r0)), (2, .inl (nI e)), (3, .inl (nI yi))], [.inl (5 : Int32), .inl (nI e2), .inr (.inr (some (m + 27)))], H)) (C := []) rfl trivial ?_
        refine mw_cIe (fun _ => rfl) (show mu_is H (some (m + 27)) 10 from (h.1.w (md_w13 h.2.1)).1) (dm.getr (d := (d + 2)) h rfl (j := 13) (by decide) rfl (nI e2) (c := 5) (by decide)) ?_
        rw [show (tget ((ak m H) 13) (nI e2) 5) = (sn (ak m H) e2) from tget_nI (by omega)]
        refine mw_go mu_g202 (k := 1) (f1 := (79, [(5, .inl (nI e2)), (4, .inl (nI p)), (0, .inr (.inr (some 91))), (1, .inl (nI r0)), (2, .inl (nI e)), (3, .inl (nI yi))], [.inl (2 : Int32), .inl (sn (ak m H) e2)], H)) (C := []) rfl trivial ?_
        refine mw_if (P := (sn (ak m H) e2) = (2 : Int32)) (a := 98) (b := 82) (fun _ => rfl) trivial (fun h10 => ?_) (fun h10 => ?_)
        · -- 98: (sn (ak m H) e2) = (2 : Int32)
          refine mw_go mu_g202 (k := 2) (f1 := (34, [(4, .inl ((nI p) + 1)), (5, .inl (nI e2)), (0, .inr (.inr (some 91))), (1, .inl (nI r0)), (2, .inl (nI e)), (3, .inl (nI yi))], [], H)) (C := []) rfl trivial ?_
          rw [nI_1 p]
          exact mw_sub (by simp) (ih (p + 1) ⟨(show ya ≤ (p + 1) from by omega), (show (p + 1) < 2147483648 from by omega), (show (p + 1) ≤ 2147483647 from by omega), (show ∀ q e3, oq (ak m H) r0 ≤ q → q < (p + 1) → prt W (oe (ak m H) r0) q e3 → sn (ak m H) e3 = 2 from (fun q e3 h1 h2 hx => by by_cases eq : q = p; (subst eq; rw [show e3 = e2 from (nI_eq (by have := hx.2.2.1; omega) (by omega)).mp (by have := hx.2.2.2; rw [← heo, k3, ← hnm] at this; exact this.symm)]; exact h10); exact hpa q e3 h1 (by omega) hx))⟩ (by show 2147483648 - (p + 1) < 2147483648 - p; omega))
        · -- 82: not (sn (ak m H) e2) = (2 : Int32)
          refine mw_go mu_g202 (k := 2) (f1 := (86, [(5, .inl (nI e2)), (4, .inl (nI p)), (0, .inr (.inr (some 91))), (1, .inl (nI r0)), (2, .inl (nI e)), (3, .inl (nI yi))], [.inr (.inr (mu_r H 91 1))], H)) (C := [mu_is H (some 91) 3]) rfl (show mu_is H (some 91) 3 from h.1.is rfl) ?_
          rw [(h.1.r (p := 91) (j := 1) (q := 96) rfl)]
          refine mw_go mu_g202 (k := 5) (f1 := (92, [(5, .inl (nI e2)), (4, .inl (nI p)), (0, .inr (.inr (some 91))), (1, .inl (nI r0)), (2, .inl (nI e)), (3, .inl (nI yi))], [.inl ((nI p) + (1 : Int32)), .inl (1 : Int32), .inl (nI r0), .inr (.inr (some 96))], H)) (C := []) rfl trivial ?_
          rw [nI_1 p]
          refine mw_cV (fun _ => rfl) (show mu_is H (some 96) 10 from h.1.is rfl) (dm.setr (C := C) (d := (d + 2)) h rfl (j := 20) (by decide) rfl (nI r0) (nI (p + 1)) (c := 1) (by decide)) (fun H11 q11 => ?_)
          obtain ⟨hp11, qt11, ha11, qh11⟩ := q11
          have ht11 := (rl.refl m C H).trans qt11
          refine mw_go mu_g202 (k := 1) (f1 := (97, [(5, .inl (nI e2)), (4, .inl (nI p)), (0, .inr (.inr (some 91))), (1, .inl (nI r0)), (2, .inl (nI e)), (3, .inl (nI yi))], [.inl (nI e2)], H11)) (C := []) rfl trivial ?_
          exact mw_of (fun _ => mu_ret rfl trivial ⟨_, H11, rfl, Or.inr ⟨e2, p, rfl, he2, hp11, ht11, qh11, ha11, by omega, (by show ea W (oe (ak m H) r0) ≤ p; rw [← heo, y6]; omega), h10, hpa, fun e3 hx => (nI_eq (by have := hx.2.2.1; omega) (by omega)).mp (by have := hx.2.2.2; rw [← heo, k3, ← hnm] at this; exact this.symm)⟩⟩)
  · -- 104: not (nI p) < (nI yb)
    have hpb2 : yb ≤ p := Nat.le_of_not_lt (fun z => h5 (nI_lt z (by omega)))
    refine mw_go mu_g202 (k := 1) (f1 := (105, [(4, .inl (nI p)), (0, .inr (.inr (some 91))), (1, .inl (nI r0)), (2, .inl (nI e)), (3, .inl (nI yi))], [.inl (-1 : Int32)], H)) (C := []) rfl trivial ?_
    exact mw_of (fun _ => mu_ret rfl trivial ⟨_, _, rfl, Or.inl ⟨rfl, rfl, fun q e3 h1 h2 => hpa q e3 h1 (by have := h2.2.1; rw [← heo, k2] at this; omega) h2⟩⟩)
theorem jg_visit3 (h : dm m H) (hV : VO W (ac 20 (ak m H) 0)) (hX : VX W (ac 20 (ak m H) 0) none) (hW : JW W) (hE : (W 13).1 ≤ 4001) (he : e < (W 13).1) (h0 : sn (ak m H) e = 0) (hC14 : 2 * (((W 13).1 + 1) * 1) + 1 ≤ C 14) (hC14b : C 14 ≤ 8388608) (hC20 : 2 * (((W 13).1 + 1) * 2) + 2 ≤ C 20) (hC20b : C 20 ≤ 8388608) : mu_TI (mu_D (d + 5)) 200 [.inr (.inr (some 91)), .inl (nI e)] H (fun x H1 => (x = 0 ∨ x = 1) ∧ dm m H1 ∧ rl m C H H1 ∧ (∀ z, mu_i H1 95 z = mu_i H 95 z) ∧ VO W (ak m H1) ∧ (x = 1 → VX W (ak m H1) none ∧ (ak m H1 20).1 = 0 ∧ ∀ x, (¬ sn (ak m H) x = 0 ∨ x = e) → ¬ sn (ak m H1) x = 0)) := by
  have b13 := hW.2.2.2.2.2.2 13 (by decide)
  refine mu_meth (M := mu_m200) rfl rfl ?_
  refine mw_ht (mu_fn_of (show [0, 1].Nodup by decide)) ?_
  refine mw_go mu_g200 (k := 2) (f1 := (4, [(0, .inr (.inr (some 91))), (1, .inl (nI e))], [.inr (.inr (mu_r H 91 1))], H)) (C := [mu_is H (some 91) 3]) rfl (show mu_is H (some 91) 3 from h.1.is rfl) ?_
  rw [(h.1.r (p := 91) (j := 1) (q := 96) rfl)]
  refine mw_cV (fun _ => rfl) (show mu_is H (some 96) 10 from h.1.is rfl) (dm.clearr (C := C) (d := (d + 3)) h rfl (j := 20) (by decide) rfl) (fun H1 q1 => ?_)
  obtain ⟨hp1, qt1, ha1, qh1⟩ := q1
  have ht1 := (rl.refl m C H).trans qt1
  have hVc : VO W (ak m H1) := by rw [ha1]; exact hV
  have hXc : VX W (ak m H1) none := by rw [ha1]; exact hX
  have hVc3 : ak m H1 13 = ak m H 13 := by rw [ha1]; exact fu_ne _ _ (by decide)
  have hc20 : (ak m H1 20).1 = 0 := by rw [ha1]; unfold ac; rw [fu_at]; rfl
  refine mw_go mu_g200 (k := 2) (f1 := (9, [(0, .inr (.inr (some 91))), (1, .inl (nI e))], [.inl (nI e), .inr (.inr (some 91))], H1)) (C := []) rfl trivial ?_
  refine mw_cV (fun _ => rfl) (show mu_is H1 (some 91) 3 from hp1.1.is rfl) (jg_enter3 (C := C) (W := W) (d := d) (e := e) hp1 hVc hW he (by unfold sn at h0 ⊢; rw [hVc3]; exact h0) hC14 hC14b hC20 hC20b) (fun H2 q2 => ?_)
  obtain ⟨hp2, qt2, qh2, ha2⟩ := q2
  have ht2 := ht1.trans qt2
  have hV2 : VO W (ak m H2) := VO.enter hVc he b13 (by unfold sn at h0 ⊢; rw [hVc3]; exact h0) (ea_b hW he) ha2
  have hX2 : VX W (ak m H2) none := VX.enter hVc hXc he (Or.inl rfl) (fun _ => hc20) b13 (by unfold sn at h0 ⊢; rw [hVc3]; exact h0) (ea_b hW he) ha2
  obtain ⟨hm2, hmz2, hmc2, hmn2⟩ := up_enter hVc he b13 (by unfold sn at h0 ⊢; rw [hVc3]; exact h0) ha2
  refine mw_go mu_g200 (k := 2) (f1 := (14, [(2, .inl (0 : Int32)), (0, .inr (.inr (some 91))), (1, .inl (nI e))], [], H2)) (C := []) rfl trivial ?_
  show mu_W _ _ (14, [(2, .inl (nI 0)), (0, .inr (.inr (some 91))), (1, .inl (nI e))], [], H2) _
  refine mw_sub (L' := [(2, .inl (nI 0)), (0, .inr (.inr (some 91)))]) (by simp) ?_
  refine mw_down (α := Nat × mu_H) (fun zs => (14, [(2, .inl (nI zs.1)), (0, .inr (.inr (some 91)))], [], zs.2)) (fun zs => 8002 - zs.1) (fun zs => dm m zs.2 ∧ rl m C H zs.2 ∧ (VO W (ak m zs.2)) ∧ (VX W (ak m zs.2) none) ∧ (∀ z, mu_i zs.2 95 z = mu_i H 95 z) ∧ (zs.1 + 1 + 2 * cv (ak m H) 2 (W 13).1 = (ak m zs.2 20).1 + 2 * cv (ak m zs.2) 2 (W 13).1) ∧ (∀ x, (¬ sn (ak m H) x = 0 ∨ x = e) → ¬ sn (ak m zs.2) x = 0) ∧ (zs.1 ≤ 8002)) (fun zs hza iha => ?_) (0, H2) ⟨hp2, ht2, (show VO W (ak m H2) from hV2), (show VX W (ak m H2) none from hX2), (show ∀ z, mu_i H2 95 z = mu_i H 95 z from (fun z => (qh2 z).trans ((qh1 z).trans (rfl)))), (show 0 + 1 + 2 * cv (ak m H) 2 (W 13).1 = (ak m H2 20).1 + 2 * cv (ak m H2) 2 (W 13).1 from (by rw [hmn2, hmc2, hc20, show cv (ak m H1) 2 (W 13).1 = cv (ak m H) 2 (W 13).1 from sm_congr (fun x _ _ => by show (if sn (ak m H1) x = 2 then 1 else 0) = (if sn (ak m H) x = 2 then 1 else 0); unfold sn; rw [hVc3])])), (show ∀ x, (¬ sn (ak m H) x = 0 ∨ x = e) → ¬ sn (ak m H2) x = 0 from (fun x hx => hx.elim (fun z => hm2 x (by unfold sn at z ⊢; rw [hVc3]; exact z)) (fun z => by rw [z]; exact hmz2))), (show 0 ≤ 8002 from by omega)⟩
  obtain ⟨y, Hsa⟩ := zs
  obtain ⟨hpa, hta, hVs, hXs, h95, hct, hmo, hy⟩ := hza
  have hpa : dm m Hsa := hpa
  have hta : rl m C H Hsa := hta
  have hVs : VO W (ak m Hsa) := hVs
  have hXs : VX W (ak m Hsa) none := hXs
  have h95 : ∀ z, mu_i Hsa 95 z = mu_i H 95 z := h95
  have hct : y + 1 + 2 * cv (ak m H) 2 (W 13).1 = (ak m Hsa 20).1 + 2 * cv (ak m Hsa) 2 (W 13).1 := hct
  have hmo : ∀ x, (¬ sn (ak m H) x = 0 ∨ x = e) → ¬ sn (ak m Hsa) x = 0 := hmo
  have hy : y ≤ 8002 := hy
  show mu_W _ _ (14, [(2, .inl (nI y)), (0, .inr (.inr (some 91)))], [], Hsa) _
  refine mw_go mu_g200 (k := 2) (f1 := (18, [(2, .inl (nI y)), (0, .inr (.inr (some 91)))], [.inl (8002 : Int32), .inl (nI y)], Hsa)) (C := []) rfl trivial ?_
  refine mw_if (P := (nI y) < (8002 : Int32)) (a := 21) (b := 139) (fun _ => rfl) trivial (fun h3 => ?_) (fun h3 => ?_)
  · -- 21: (nI y) < (8002 : Int32)
    have hy8 : y < 8002 := (nI_ltI (b := 8002) (by omega) (by decide)).mp h3
    refine mw_go mu_g200 (k := 2) (f1 := (25, [(2, .inl (nI y)), (0, .inr (.inr (some 91)))], [.inr (.inr (mu_r Hsa 91 1))], Hsa)) (C := [mu_is Hsa (some 91) 3]) rfl (show mu_is Hsa (some 91) 3 from hpa.1.is rfl) ?_
    rw [(hpa.1.r (p := 91) (j := 1) (q := 96) rfl)]
    refine mw_go mu_g200 (k := 1) (f1 := (28, [(2, .inl (nI y)), (0, .inr (.inr (some 91)))], [.inl (mu_i Hsa 96 2)], Hsa)) (C := [mu_is Hsa (some 96) 10]) rfl (show mu_is Hsa (some 96) 10 from hpa.1.is rfl) ?_
    rw [(show mu_i Hsa 96 2 = nI ((ak m Hsa) 20).1 from hpa.size rfl (j := 20) (by decide))]
    refine mw_if (P := 0 < (nI ((ak m Hsa) 20).1)) (a := 31) (b := 139) (fun _ => rfl) trivial (fun h4 => ?_) (fun h4 => ?_)
    · -- 31: 0 < (nI ((ak m Hsa) 20).1)
      have z20 : ((ak m Hsa) 20).1 ≤ 67108864 := by have z2 := hVs.2.2.2.2.2; have z3 := cv_le (s := (ak m Hsa)) (v := 1) (n := (W 13).1); omega
      have h020 : 0 < ((ak m Hsa) 20).1 := (nI_ltI (a := 0) (by decide) (by omega)).mp h4
      obtain ⟨r0, hr0⟩ : ∃ r0, r0 + 1 = ((ak m Hsa) 20).1 := ⟨((ak m Hsa) 20).1 - 1, by omega⟩
      obtain ⟨⟨o1, o2⟩, o3, o4, -⟩ := hVs.2.2.2.1 r0 (by omega)
      obtain ⟨eo, heo⟩ : ∃ eo, eo = oe (ak m Hsa) r0 := ⟨_, rfl⟩
      rw [← heo] at o1 o3 o4
      refine mw_go mu_g200 (k := 2) (f1 := (35, [(2, .inl (nI y)), (0, .inr (.inr (some 91)))], [.inr (.inr (mu_r Hsa 91 1))], Hsa)) (C := [mu_is Hsa (some 91) 3]) rfl (show mu_is Hsa (some 91) 3 from hpa.1.is rfl) ?_
      rw [(hpa.1.r (p := 91) (j := 1) (q := 96) rfl)]
      refine mw_go mu_g200 (k := 1) (f1 := (38, [(2, .inl (nI y)), (0, .inr (.inr (some 91)))], [.inl (mu_i Hsa 96 2)], Hsa)) (C := [mu_is Hsa (some 96) 10]) rfl (show mu_is Hsa (some 96) 10 from hpa.1.is rfl) ?_
      rw [(show mu_i Hsa 96 2 = nI ((ak m Hsa) 20).1 from hpa.size rfl (j := 20) (by decide))]
      refine mw_go mu_g200 (k := 3) (f1 := (41, [(3, .inl ((nI ((ak m Hsa) 20).1) - (1 : Int32))), (2, .inl (nI y)), (0, .inr (.inr (some 91)))], [], Hsa)) (C := []) rfl trivial ?_
      rw [show ((nI ((ak m Hsa) 20).1) - (1 : Int32)) = nI r0 from by rw [← hr0]; exact nI_pred r0]
      refine mw_go mu_g200 (k := 2) (f1 := (43, [(3, .inl (nI r0)), (2, .inl (nI y)), (0, .inr (.inr (some 91)))], [.inl (nI r0), .inr (.inr (some 91))], Hsa)) (C := []) rfl trivial ?_
      refine mw_cI (fun _ => rfl) (show mu_is Hsa (some 91) 3 from hpa.1.is rfl) (jg_next3 (C := C) (W := W) (d := d) (r0 := r0) hpa hVs hW hr0) (fun x5 H5 q5 => ?_)
      rcases q5 with ⟨rfl, rfl, hnp⟩ | ⟨e2, p2, rfl, he2, hp5, qt5, qh5, ha5, hpb5, hpc5, hs5, hq1, hq2⟩
      · -- (-1 : Int32)
        refine mw_go mu_g200 (k := 2) (f1 := (50, [(4, .inl (-1 : Int32)), (3, .inl (nI r0)), (2, .inl (nI y)), (0, .inr (.inr (some 91)))], [.inl (-1 : Int32)], Hsa)) (C := []) rfl trivial ?_
        refine mw_if (P := (-1 : Int32) < 0) (a := 53) (b := 108) (fun _ => rfl) trivial (fun h6 => ?_) (fun h6 => absurd (by decide) h6)
        refine mw_go mu_g200 (k := 2) (f1 := (57, [(4, .inl (-1 : Int32)), (3, .inl (nI r0)), (2, .inl (nI y)), (0, .inr (.inr (some 91)))], [.inr (.inr (mu_r Hsa 91 3))], Hsa)) (C := [mu_is Hsa (some 91) 3]) rfl (show mu_is Hsa (some 91) 3 from hpa.1.is rfl) ?_
        rw [hpa.2.2.2]
        refine mw_go mu_g200 (k := 1) (f1 := (60, [(4, .inl (-1 : Int32)), (3, .inl (nI r0)), (2, .inl (nI y)), (0, .inr (.inr (some 91)))], [.inr (.inr (mu_r Hsa m 13))], Hsa)) (C := [mu_is Hsa (some m) 6]) rfl (show mu_is Hsa (some m) 6 from (show mu_is Hsa (some m) 6 from gi_im hpa.1 hpa.2.1)) ?_
        rw [(show mu_r Hsa m 13 = some (m + 27) from (gi_mr hpa.1 hpa.2.1 (j := 13) (by decide)).trans (congrArg some (by omega)))]
        refine mw_go mu_g200 (k := 2) (f1 := (64, [(4, .inl (-1 : Int32)), (3, .inl (nI r0)), (2, .inl (nI y)), (0, .inr (.inr (some 91)))], [.inr (.inr (mu_r Hsa 91 1)), .inr (.inr (some (m + 27)))], Hsa)) (C := [mu_is Hsa (some 91) 3]) rfl (show mu_is Hsa (some 91) 3 from hpa.1.is rfl) ?_
        rw [(hpa.1.r (p := 91) (j := 1) (q := 96) rfl)]
        refine mw_go mu_g200 (k := 2) (f1 := (66, [(4, .inl (-1 : Int32)), (3, .inl (nI r0)), (2, .inl (nI y)), (0, .inr (.inr (some 91)))], [.inl (0 : Int32), .inl (nI r0), .inr (.inr (some 96)), .inr (.inr (some (m + 27)))], Hsa)) (C := []) rfl trivial ?_
        refine mw_cIe (fun _ => rfl) (show mu_is Hsa (some 96) 10 from hpa.1.is rfl) (dm.getr (d := (d + 3)) hpa rfl (j := 20) (by decide) rfl (nI r0) (c := 0) (by decide)) ?_
        rw [show (tget ((ak m Hsa) 20) (nI r0) 0) = (nI eo) from (tget_nI (by omega)).trans o1]
        refine mw_go mu_g200 (k := 2) (f1 := (71, [(4, .inl (-1 : Int32)), (3, .inl (nI r0)), (2, .inl (nI y)), (0, .inr (.inr (some 91)))], [.inl (2 : Int32), .inl (5 : Int32), .inl (nI eo), .inr (.inr (some (m + 27)))], Hsa)) (C := []) rfl trivial ?_
        refine mw_cV (fun _ => rfl) (show mu_is Hsa (some (m + 27)) 10 from (hpa.1.w (md_w13 hpa.2.1)).1) (dm.setr (C := C) (d := (d + 3)) hpa rfl (j := 13) (by decide) rfl (nI eo) (2 : Int32) (c := 5) (by decide)) (fun H8 q8 => ?_)
        obtain ⟨hp8, qt8, ha8, qh8⟩ := q8
        have ht8 := hta.trans qt8
        refine mw_go mu_g200 (k := 2) (f1 := (78, [(4, .inl (-1 : Int32)), (3, .inl (nI r0)), (2, .inl (nI y)), (0, .inr (.inr (some 91)))], [.inr (.inr (mu_r H8 91 3))], H8)) (C := [mu_is H8 (some 91) 3]) rfl (show mu_is H8 (some 91) 3 from hp8.1.is rfl) ?_
        rw [hp8.2.2.2]
        refine mw_go mu_g200 (k := 1) (f1 := (81, [(4, .inl (-1 : Int32)), (3, .inl (nI r0)), (2, .inl (nI y)), (0, .inr (.inr (some 91)))], [.inr (.inr (mu_r H8 m 14))], H8)) (C := [mu_is H8 (some m) 6]) rfl (show mu_is H8 (some m) 6 from (show mu_is H8 (some m) 6 from gi_im hp8.1 hp8.2.1)) ?_
        rw [(show mu_r H8 m 14 = some (m + 29) from (gi_mr hp8.1 hp8.2.1 (j := 14) (by decide)).trans (congrArg some (by omega)))]
        refine mw_go mu_g200 (k := 2) (f1 := (85, [(4, .inl (-1 : Int32)), (3, .inl (nI r0)), (2, .inl (nI y)), (0, .inr (.inr (some 91)))], [.inr (.inr (mu_r H8 91 1)), .inr (.inr (some (m + 29)))], H8)) (C := [mu_is H8 (some 91) 3]) rfl (show mu_is H8 (some 91) 3 from hp8.1.is rfl) ?_
        rw [(hp8.1.r (p := 91) (j := 1) (q := 96) rfl)]
        refine mw_go mu_g200 (k := 2) (f1 := (87, [(4, .inl (-1 : Int32)), (3, .inl (nI r0)), (2, .inl (nI y)), (0, .inr (.inr (some 91)))], [.inl (0 : Int32), .inl (nI r0), .inr (.inr (some 96)), .inr (.inr (some (m + 29)))], H8)) (C := []) rfl trivial ?_
        refine mw_cIe (fun _ => rfl) (show mu_is H8 (some 96) 10 from hp8.1.is rfl) (dm.getr (d := (d + 3)) hp8 ha8 (j := 20) (by decide) rfl (nI r0) (c := 0) (by decide)) ?_
        rw [show (tget ((ax 13 (ak m Hsa) (nI eo) 5 (2 : Int32)) 20) (nI r0) 0) = (nI eo) from (tget_nI (by omega)).trans (by rw [ax_ne (by decide)]; exact o1)]
        refine mw_go mu_g200 (k := 3) (f1 := (93, [(4, .inl (-1 : Int32)), (3, .inl (nI r0)), (2, .inl (nI y)), (0, .inr (.inr (some 91)))], [.inl (0 : Int32), .inl (0 : Int32), .inl (0 : Int32), .inl (nI eo), .inr (.inr (some (m + 29)))], H8)) (C := []) rfl trivial ?_
        refine mw_cI (fun _ => rfl) (show mu_is H8 (some (m + 29)) 10 from (hp8.1.w (md_w14 hp8.2.1)).1) (dm.putr (C := C) (d := (d + 1)) hp8 ha8 (j := 14) (by decide) rfl (nI eo) (0 : Int32) (0 : Int32) (0 : Int32) (by have z2 := hVs.2.2.2.2.1; have hcu := cv_set (s := (ak m Hsa)) (s' := ax 13 (ak m Hsa) (nI eo) 5 2) (v := 2) o3 (fun x hx => ax_c (fun _ z => absurd (z.trans (nI_clamp (by omega))) hx)); have z3 := cv_le (s := ax 13 (ak m Hsa) (nI eo) 5 2) (v := 2) (n := (W 13).1); have z4 : ((ax 13 (ak m Hsa) (nI eo) 5 (2 : Int32)) 14).1 = ((ak m Hsa) 14).1 := (by rw [ax_ne (by decide)]); rw [o4, if_neg (by decide)] at hcu; show 2 * ((((ax 13 (ak m Hsa) (nI eo) 5 (2 : Int32)) 14).1 + 1) * 1) + 1 ≤ C 14; omega) hC14b) (fun x10 H10 q10 => ?_)
        obtain ⟨rfl, hp10, qt10, ha10, qh10⟩ := q10
        have ht10 := ht8.trans qt10
        refine mw_go mu_g200 (k := 3) (f1 := (101, [(4, .inl (-1 : Int32)), (3, .inl (nI r0)), (2, .inl (nI y)), (0, .inr (.inr (some 91)))], [.inr (.inr (mu_r H10 91 1))], H10)) (C := [mu_is H10 (some 91) 3]) rfl (show mu_is H10 (some 91) 3 from hp10.1.is rfl) ?_
        rw [(hp10.1.r (p := 91) (j := 1) (q := 96) rfl)]
        refine mw_go mu_g200 (k := 1) (f1 := (102, [(4, .inl (-1 : Int32)), (3, .inl (nI r0)), (2, .inl (nI y)), (0, .inr (.inr (some 91)))], [.inl (nI r0), .inr (.inr (some 96))], H10)) (C := []) rfl trivial ?_
        refine mw_cV (fun _ => rfl) (show mu_is H10 (some 96) 10 from hp10.1.is rfl) (dm.cutr (C := C) (d := (d + 2)) hp10 ha10 (j := 20) (by decide) rfl (k := r0) (by rw [ap_ne (by decide), ax_ne (by decide)]; omega)) (fun H11 q11 => ?_)
        obtain ⟨hp11, qt11, ha11, qh11⟩ := q11
        have ht11 := ht10.trans qt11
        obtain ⟨hm11, hmc11, hmn11⟩ := up_pop hVs hr0 heo b13 ha11
        refine mw_go mu_g200 (k := 3) (f1 := (14, [(2, .inl ((nI y) + 1)), (4, .inl (-1 : Int32)), (3, .inl (nI r0)), (0, .inr (.inr (some 91)))], [], H11)) (C := []) rfl trivial ?_
        rw [nI_1 y]
        exact mw_sub (by simp) (iha (y + 1, H11) ⟨hp11, ht11, (show VO W (ak m H11) from (hVs.pop hr0 heo b13 ha11)), (show VX W (ak m H11) none from (VX.pop hVs hXs hr0 heo b13 hnp ha11)), (show ∀ z, mu_i H11 95 z = mu_i H 95 z from (fun z => (qh11 z).trans ((qh10 z).trans ((qh8 z).trans (h95 z))))), (show (y + 1) + 1 + 2 * cv (ak m H) 2 (W 13).1 = (ak m H11 20).1 + 2 * cv (ak m H11) 2 (W 13).1 from (by rw [hmc11, hmn11]; omega)), (show ∀ x, (¬ sn (ak m H) x = 0 ∨ x = e) → ¬ sn (ak m H11) x = 0 from (fun x hx => hm11 x (hmo x hx))), (show (y + 1) ≤ 8002 from by omega)⟩ (by show 8002 - (y + 1) < 8002 - y; omega))
      · -- (nI e2)
        have ht5 := hta.trans qt5
        have hV5 : VO W (ak m H5) := VO.next hVs (by omega) (by omega) (by omega) hpb5 ha5
        have hX5 : VX W (ak m H5) (some e2) := VX.next hXs hr0 (by omega) hpb5 hq1 hq2 ha5
        obtain ⟨hm5, hmc5, hmn5⟩ := up_next (W := W) ha5
        have h135 : ak m H5 13 = ak m Hsa 13 := by rw [ha5, ax_ne (by decide)]
        refine mw_go mu_g200 (k := 2) (f1 := (50, [(4, .inl (nI e2)), (3, .inl (nI r0)), (2, .inl (nI y)), (0, .inr (.inr (some 91)))], [.inl (nI e2)], H5)) (C := []) rfl trivial ?_
        refine mw_if (P := (nI e2) < 0) (a := 53) (b := 108) (fun _ => rfl) trivial (fun h12 => ?_) (fun h12 => ?_)
        · -- 53: (nI e2) < 0
          exact absurd h12 (nI_pos (by omega))
        · -- 108: not (nI e2) < 0
          refine mw_go mu_g200 (k := 2) (f1 := (112, [(4, .inl (nI e2)), (3, .inl (nI r0)), (2, .inl (nI y)), (0, .inr (.inr (some 91)))], [.inr (.inr (mu_r H5 91 3))], H5)) (C := [mu_is H5 (some 91) 3]) rfl (show mu_is H5 (some 91) 3 from hp5.1.is rfl) ?_
          rw [hp5.2.2.2]
          refine mw_go mu_g200 (k := 1) (f1 := (115, [(4, .inl (nI e2)), (3, .inl (nI r0)), (2, .inl (nI y)), (0, .inr (.inr (some 91)))], [.inr (.inr (mu_r H5 m 13))], H5)) (C := [mu_is H5 (some m) 6]) rfl (show mu_is H5 (some m) 6 from (show mu_is H5 (some m) 6 from gi_im hp5.1 hp5.2.1)) ?_
          rw [(show mu_r H5 m 13 = some (m + 27) from (gi_mr hp5.1 hp5.2.1 (j := 13) (by decide)).trans (congrArg some (by omega)))]
          refine mw_go mu_g200 (k := 2) (f1 := (118, [(4, .inl (nI e2)), (3, .inl (nI r0)), (2, .inl (nI y)), (0, .inr (.inr (some 91)))], [.inl (5 : Int32), .inl (nI e2), .inr (.inr (some (m + 27)))], H5)) (C := []) rfl trivial ?_
          refine mw_cIe (fun _ => rfl) (show mu_is H5 (some (m + 27)) 10 from (hp5.1.w (md_w13 hp5.2.1)).1) (dm.getr (d := (d + 3)) hp5 rfl (j := 13) (by decide) rfl (nI e2) (c := 5) (by decide)) ?_
          rw [show (tget ((ak m H5) 13) (nI e2) 5) = (sn (ak m H5) e2) from tget_nI (by omega)]
          refine mw_go mu_g200 (k := 1) (f1 := (122, [(4, .inl (nI e2)), (3, .inl (nI r0)), (2, .inl (nI y)), (0, .inr (.inr (some 91)))], [.inl (1 : Int32), .inl (sn (ak m H5) e2)], H5)) (C := []) rfl trivial ?_
          refine mw_if (P := (sn (ak m H5) e2) = (1 : Int32)) (a := 125) (b := 127) (fun _ => rfl) trivial (fun h14 => ?_) (fun h14 => ?_)
          · -- 125: (sn (ak m H5) e2) = (1 : Int32)
            refine mw_go mu_g200 (k := 1) (f1 := (126, [(4, .inl (nI e2)), (3, .inl (nI r0)), (2, .inl (nI y)), (0, .inr (.inr (some 91)))], [.inl (0 : Int32)], H5)) (C := []) rfl trivial ?_
            exact mw_of (fun _ => mu_ret rfl (Or.inl rfl) ⟨_, H5, rfl, Or.inl rfl, hp5, ht5, (fun z => (qh5 z).trans (h95 z)), hV5, (fun z => absurd z (by decide))⟩)
          · -- 127: not (sn (ak m H5) e2) = (1 : Int32)
            refine mw_go mu_g200 (k := 2) (f1 := (130, [(4, .inl (nI e2)), (3, .inl (nI r0)), (2, .inl (nI y)), (0, .inr (.inr (some 91)))], [.inl (nI e2), .inr (.inr (some 91))], H5)) (C := []) rfl trivial ?_
            refine mw_cV (fun _ => rfl) (show mu_is H5 (some 91) 3 from hp5.1.is rfl) (jg_enter3 (C := C) (W := W) (d := d) (e := e2) hp5 hV5 hW he2 ((hV5.2.1 e2 he2).resolve_right (fun z => z.elim h14 (fun z => hs5 (by unfold sn at z ⊢; rw [← h135]; exact z)))) hC14 hC14b hC20 hC20b) (fun H15 q15 => ?_)
            obtain ⟨hp15, qt15, qh15, ha15⟩ := q15
            have ht15 := ht5.trans qt15
            have hV15 : VO W (ak m H15) := VO.enter hV5 he2 b13 ((hV5.2.1 e2 he2).resolve_right (fun z => z.elim h14 (fun z => hs5 (by unfold sn at z ⊢; rw [← h135]; exact z)))) (ea_b hW he2) ha15
            have hX15 : VX W (ak m H15) none := VX.enter hV5 hX5 he2 (Or.inr rfl) (fun z => by cases z) b13 ((hV5.2.1 e2 he2).resolve_right (fun z => z.elim h14 (fun z => hs5 (by unfold sn at z ⊢; rw [← h135]; exact z)))) (ea_b hW he2) ha15
            obtain ⟨hm15, hmz15, hmc15, hmn15⟩ := up_enter hV5 he2 b13 ((hV5.2.1 e2 he2).resolve_right (fun z => z.elim h14 (fun z => hs5 (by unfold sn at z ⊢; rw [← h135]; exact z)))) ha15
            refine mw_go mu_g200 (k := 2) (f1 := (14, [(2, .inl ((nI y) + 1)), (4, .inl (nI e2)), (3, .inl (nI r0)), (0, .inr (.inr (some 91)))], [], H15)) (C := []) rfl trivial ?_
            rw [nI_1 y]
            exact mw_sub (by simp) (iha (y + 1, H15) ⟨hp15, ht15, (show VO W (ak m H15) from hV15), (show VX W (ak m H15) none from hX15), (show ∀ z, mu_i H15 95 z = mu_i H 95 z from (fun z => (qh15 z).trans ((qh5 z).trans (h95 z)))), (show (y + 1) + 1 + 2 * cv (ak m H) 2 (W 13).1 = (ak m H15 20).1 + 2 * cv (ak m H15) 2 (W 13).1 from (by rw [hmc15, hmn15, hmc5, hmn5]; omega)), (show ∀ x, (¬ sn (ak m H) x = 0 ∨ x = e) → ¬ sn (ak m H15) x = 0 from (fun x hx => hm15 x (by rw [hm5]; exact hmo x hx))), (show (y + 1) ≤ 8002 from by omega)⟩ (by show 8002 - (y + 1) < 8002 - y; omega))
    · -- 139: not 0 < (nI ((ak m Hsa) 20).1)
      have hcb : ((ak m Hsa) 20).1 + cv (ak m Hsa) 2 (W 13).1 ≤ (W 13).1 := by have z2 := hVs.2.2.2.2.2; have z3 := cv12 (s := (ak m Hsa)) (n := (W 13).1); omega
      have h00 : ((ak m Hsa) 20).1 = 0 := Nat.le_zero.mp (Nat.le_of_not_lt (fun z => h4 (nI_lt (a := 0) z (by omega))))
      refine mw_go mu_g200 (k := 1) (f1 := (140, [(2, .inl (nI y)), (0, .inr (.inr (some 91)))], [.inl (1 : Int32)], Hsa)) (C := []) rfl trivial ?_
      exact mw_of (fun _ => mu_ret rfl (Or.inr rfl) ⟨_, Hsa, rfl, Or.inr rfl, hpa, hta, h95, hVs, (fun _ => ⟨hXs, h00, hmo⟩)⟩)
  · -- 139: not (nI y) < (8002 : Int32)
    have hcb : ((ak m Hsa) 20).1 + cv (ak m Hsa) 2 (W 13).1 ≤ (W 13).1 := by have z2 := hVs.2.2.2.2.2; have z3 := cv12 (s := (ak m Hsa)) (n := (W 13).1); omega
    exact absurd (show nI y < (8002 : Int32) from nI_lt (b := 8002) (by omega) (by decide)) h3
theorem sn_02 {s : Ts} {xe : Option Nat} (hO : VO W (ac 20 s 0)) (h : VX W (ac 20 s 0) xe) (he : e < (W 13).1) (h0 : ¬ sn s e = 0) : sn s e = 2 := by
  have e1 : sn (ac 20 s 0) e = sn s e := rfl
  rcases hO.2.1 e he with z | z | z
  · exact absurd (e1.symm.trans z) h0
  · obtain ⟨r, hr, -⟩ := h.2.2.2.1 e he z
    have : (ac 20 s 0 20).1 = 0 := by unfold ac; rw [fu_at]; rfl
    omega
  · exact e1.symm.trans z
theorem jg_ordered3 (h : dm m H) (hV : VO W (ac 20 (ak m H) 0)) (hX : VX W (ac 20 (ak m H) 0) none) (hW : JW W) (hE : (W 13).1 ≤ 4001) (hC14 : 2 * (((W 13).1 + 1) * 1) + 1 ≤ C 14) (hC14b : C 14 ≤ 8388608) (hC20 : 2 * (((W 13).1 + 1) * 2) + 2 ≤ C 20) (hC20b : C 20 ≤ 8388608) : mu_TI (mu_D (d + 6)) 187 [.inr (.inr (some 91))] H (fun x H1 => (x = 0 ∨ x = 1) ∧ dm m H1 ∧ rl m C H H1 ∧ (∀ z, mu_i H1 95 z = mu_i H 95 z) ∧ VO W (ac 20 (ak m H1) 0) ∧ (x = 1 → VX W (ac 20 (ak m H1) 0) none ∧ ∀ x, x < (W 13).1 → sn (ak m H1) x = 2)) := by
  have b13 := hW.2.2.2.2.2.2 13 (by decide)
  refine mu_meth (M := mu_m187) rfl rfl ?_
  refine mw_ht (mu_fn_of (show [0].Nodup by decide)) ?_
  refine mw_go mu_g187 (k := 2) (f1 := (2, [(1, .inl (0 : Int32)), (0, .inr (.inr (some 91)))], [], H)) (C := []) rfl trivial ?_
  show mu_W _ _ (2, [(1, .inl (nI 0)), (0, .inr (.inr (some 91)))], [], H) _
  refine mw_sub (L' := [(1, .inl (nI 0)), (0, .inr (.inr (some 91)))]) (by simp) ?_
  refine mw_down (α := Nat × mu_H) (fun zs => (2, [(1, .inl (nI zs.1)), (0, .inr (.inr (some 91)))], [], zs.2)) (fun zs => (W 13).1 - zs.1) (fun zs => dm m zs.2 ∧ rl m C H zs.2 ∧ (VO W (ac 20 (ak m zs.2) 0)) ∧ (VX W (ac 20 (ak m zs.2) 0) none) ∧ (∀ z, mu_i zs.2 95 z = mu_i H 95 z) ∧ (∀ x, x < zs.1 → sn (ak m zs.2) x = 2) ∧ (zs.1 ≤ (W 13).1)) (fun zs hza iha => ?_) (0, H) ⟨h, (rl.refl m C H), (show VO W (ac 20 (ak m H) 0) from hV), (show VX W (ac 20 (ak m H) 0) none from hX), (show ∀ z, mu_i H 95 z = mu_i H 95 z from (fun _ => rfl)), (show ∀ x, x < 0 → sn (ak m H) x = 2 from (fun x hx => absurd hx (Nat.not_lt_zero _))), (show 0 ≤ (W 13).1 from by omega)⟩
  obtain ⟨y, Hsa⟩ := zs
  obtain ⟨hpa, hta, hVs, hXs, h95, hal, hy⟩ := hza
  have hpa : dm m Hsa := hpa
  have hta : rl m C H Hsa := hta
  have hVs : VO W (ac 20 (ak m Hsa) 0) := hVs
  have hXs : VX W (ac 20 (ak m Hsa) 0) none := hXs
  have h95 : ∀ z, mu_i Hsa 95 z = mu_i H 95 z := h95
  have hal : ∀ x, x < y → sn (ak m Hsa) x = 2 := hal
  have hy : y ≤ (W 13).1 := hy
  show mu_W _ _ (2, [(1, .inl (nI y)), (0, .inr (.inr (some 91)))], [], Hsa) _
  refine mw_go mu_g187 (k := 3) (f1 := (7, [(1, .inl (nI y)), (0, .inr (.inr (some 91)))], [.inr (.inr (mu_r Hsa 91 3)), .inl (nI y)], Hsa)) (C := [mu_is Hsa (some 91) 3]) rfl (show mu_is Hsa (some 91) 3 from hpa.1.is rfl) ?_
  rw [hpa.2.2.2]
  refine mw_go mu_g187 (k := 1) (f1 := (10, [(1, .inl (nI y)), (0, .inr (.inr (some 91)))], [.inr (.inr (mu_r Hsa m 13)), .inl (nI y)], Hsa)) (C := [mu_is Hsa (some m) 6]) rfl (show mu_is Hsa (some m) 6 from (show mu_is Hsa (some m) 6 from gi_im hpa.1 hpa.2.1)) ?_
  rw [(show mu_r Hsa m 13 = some (m + 27) from (gi_mr hpa.1 hpa.2.1 (j := 13) (by decide)).trans (congrArg some (by omega)))]
  refine mw_go mu_g187 (k := 1) (f1 := (13, [(1, .inl (nI y)), (0, .inr (.inr (some 91)))], [.inl (mu_i Hsa (m + 27) 2), .inl (nI y)], Hsa)) (C := [mu_is Hsa (some (m + 27)) 10]) rfl (show mu_is Hsa (some (m + 27)) 10 from (hpa.1.w (md_w13 hpa.2.1)).1) ?_
  rw [(show mu_i Hsa (m + 27) 2 = nI ((ak m Hsa) 13).1 from hpa.size rfl (j := 13) (by decide))]
  refine mw_if (P := (nI y) < (nI ((ak m Hsa) 13).1)) (a := 16) (b := 47) (fun _ => rfl) trivial (fun h1 => ?_) (fun h1 => ?_)
  · -- 16: (nI y) < (nI ((ak m Hsa) 13).1)
    rw [show ((ak m Hsa) 13).1 = (W 13).1 from hVs.1.2.1] at h1
    have hyN : y < (W 13).1 := (nI_ltI (by omega) (by omega)).mp h1
    refine mw_go mu_g187 (k := 2) (f1 := (20, [(1, .inl (nI y)), (0, .inr (.inr (some 91)))], [.inr (.inr (mu_r Hsa 91 3))], Hsa)) (C := [mu_is Hsa (some 91) 3]) rfl (show mu_is Hsa (some 91) 3 from hpa.1.is rfl) ?_
    rw [hpa.2.2.2]
    refine mw_go mu_g187 (k := 1) (f1 := (23, [(1, .inl (nI y)), (0, .inr (.inr (some 91)))], [.inr (.inr (mu_r Hsa m 13))], Hsa)) (C := [mu_is Hsa (some m) 6]) rfl (show mu_is Hsa (some m) 6 from (show mu_is Hsa (some m) 6 from gi_im hpa.1 hpa.2.1)) ?_
    rw [(show mu_r Hsa m 13 = some (m + 27) from (gi_mr hpa.1 hpa.2.1 (j := 13) (by decide)).trans (congrArg some (by omega)))]
    refine mw_go mu_g187 (k := 2) (f1 := (25, [(1, .inl (nI y)), (0, .inr (.inr (some 91)))], [.inl (5 : Int32), .inl (nI y), .inr (.inr (some (m + 27)))], Hsa)) (C := []) rfl trivial ?_
    refine mw_cIe (fun _ => rfl) (show mu_is Hsa (some (m + 27)) 10 from (hpa.1.w (md_w13 hpa.2.1)).1) (dm.getr (d := (d + 4)) hpa rfl (j := 13) (by decide) rfl (nI y) (c := 5) (by decide)) ?_
    rw [show (tget ((ak m Hsa) 13) (nI y) 5) = (sn (ak m Hsa) y) from tget_nI (by omega)]
    refine mw_if (P := (sn (ak m Hsa) y) = 0) (a := 31) (b := 41) (fun _ => rfl) trivial (fun h3 => ?_) (fun h3 => ?_)
    · -- 31: (sn (ak m Hsa) y) = 0
      refine mw_go mu_g187 (k := 2) (f1 := (33, [(1, .inl (nI y)), (0, .inr (.inr (some 91)))], [.inl (nI y), .inr (.inr (some 91))], Hsa)) (C := []) rfl trivial ?_
      refine mw_cI (fun _ => rfl) (show mu_is Hsa (some 91) 3 from hpa.1.is rfl) (jg_visit3 (C := C) (W := W) (d := d) (e := y) hpa hVs hXs hW hE hyN h3 hC14 hC14b hC20 hC20b) (fun x4 H4 q4 => ?_)
      obtain ⟨qx4, hp4, qt4, qh4, hV4, hX4⟩ := q4
      rcases qx4 with rfl | rfl
      · -- (0 : Int32)
        have ht4 := hta.trans qt4
        refine mw_if (P := (0 : Int32) = 0) (a := 39) (b := 41) (fun _ => rfl) trivial (fun h5 => ?_) (fun h5 => absurd (by decide) h5)
        refine mw_go mu_g187 (k := 1) (f1 := (40, [(1, .inl (nI y)), (0, .inr (.inr (some 91)))], [.inl (0 : Int32)], H4)) (C := []) rfl trivial ?_
        exact mw_of (fun _ => mu_ret rfl (Or.inl rfl) ⟨_, H4, rfl, Or.inl rfl, hp4, ht4, (fun z => (qh4 z).trans (h95 z)), (hV4.clear rfl).1, (fun z => absurd z (by decide))⟩)
      · -- (1 : Int32)
        have ht4 := hta.trans qt4
        obtain ⟨hX4, hz4, hm4⟩ := hX4 rfl
        refine mw_if (P := (1 : Int32) = 0) (a := 39) (b := 41) (fun _ => rfl) trivial (fun h6 => absurd h6 (by decide)) (fun h6 => ?_)
        refine mw_go mu_g187 (k := 2) (f1 := (2, [(1, .inl ((nI y) + 1)), (0, .inr (.inr (some 91)))], [], H4)) (C := []) rfl trivial ?_
        rw [nI_1 y]
        exact mw_sub (by simp) (iha (y + 1, H4) ⟨hp4, ht4, (show VO W (ac 20 (ak m H4) 0) from (hV4.clear rfl).1), (show VX W (ac 20 (ak m H4) 0) none from (hX4.of0 hz4 rfl)), (show ∀ z, mu_i H4 95 z = mu_i H 95 z from (fun z => (qh4 z).trans (h95 z))), (show ∀ x, x < (y + 1) → sn (ak m H4) x = 2 from (fun x hx => sn_02 (hV4.clear rfl).1 (hX4.of0 hz4 rfl) (by omega) (hm4 x (by by_cases ex : x = y; exact Or.inr ex; exact Or.inl (by rw [hal x (by omega)]; decide))))), (show (y + 1) ≤ (W 13).1 from by omega)⟩ (by show (W 13).1 - (y + 1) < (W 13).1 - y; omega))
    · -- 41: not (sn (ak m Hsa) y) = 0
      refine mw_go mu_g187 (k := 2) (f1 := (2, [(1, .inl ((nI y) + 1)), (0, .inr (.inr (some 91)))], [], Hsa)) (C := []) rfl trivial ?_
      rw [nI_1 y]
      exact mw_sub (by simp) (iha (y + 1, Hsa) ⟨hpa, hta, (show VO W (ac 20 (ak m Hsa) 0) from hVs), (show VX W (ac 20 (ak m Hsa) 0) none from hXs), (show ∀ z, mu_i Hsa 95 z = mu_i H 95 z from h95), (show ∀ x, x < (y + 1) → sn (ak m Hsa) x = 2 from (fun x hx => by by_cases ex : x = y; (rw [ex]; exact sn_02 hVs hXs hyN h3); exact hal x (by omega))), (show (y + 1) ≤ (W 13).1 from by omega)⟩ (by show (W 13).1 - (y + 1) < (W 13).1 - y; omega))
  · -- 47: not (nI y) < (nI ((ak m Hsa) 13).1)
    rw [show ((ak m Hsa) 13).1 = (W 13).1 from hVs.1.2.1] at h1
    have hyN : (W 13).1 ≤ y := Nat.le_of_not_lt (fun z => h1 (nI_lt z (by omega)))
    refine mw_go mu_g187 (k := 1) (f1 := (48, [(1, .inl (nI y)), (0, .inr (.inr (some 91)))], [.inl (1 : Int32)], Hsa)) (C := []) rfl trivial ?_
    exact mw_of (fun _ => mu_ret rfl (Or.inr rfl) ⟨_, Hsa, rfl, Or.inr rfl, hpa, hta, h95, hVs, (fun _ => ⟨hXs, fun x hx => hal x (by omega)⟩)⟩)
end Order5
