/-! PARTS OF AN E: next(x) = E, E = next(x), next(x) in { } -/
section EqualsE
variable {U : Ud} {Y : Ts} {a N n k i0 P m s t w pl p : Nat} {lv rs c : Nat → Int32} {al v mk : Int32} {es : Nat → Int32} {f od : Nat → Nat}
theorem innz_ne {x : Int32} : ∀ p i, ¬ innz c x p i = 0 ↔ ∃ q, i ≤ q ∧ q < i + p ∧ c q = x
  | 0, i => ⟨fun h => absurd rfl h, fun ⟨q, h1, h2, _⟩ => absurd h2 (by omega)⟩
  | p + 1, i => by
    have ih := innz_ne (x := x) p (i + 1)
    show ¬ (if c i = x then (1 : Int32) else innz c x p (i + 1)) = 0 ↔ _
    by_cases h : c i = x
    · rw [if_pos h]
      exact ⟨fun _ => ⟨i, Nat.le_refl _, by omega, h⟩, fun _ => by decide⟩
    · rw [if_neg h, ih]
      constructor
      · rintro ⟨q, h1, h2, h3⟩
        exact ⟨q, by omega, by omega, h3⟩
      · rintro ⟨q, h1, h2, h3⟩
        have : ¬ q = i := fun e => h (by rw [← e]; exact h3)
        exact ⟨q, by omega, by omega, h3⟩
/-- an E without next of what has a place does not see the second STATE -/
theorem no_next (hK : KNV m U Y P f od es) (hl : LDW U Y P f od a N i0) (hmk : U.2.1 100 4 = mk) (hnx : ¬ NXW Y (U.1 15) P a N i0) (hi : i0 < (Y 11).1) {Lk : List Bool} (hr : rgs Y (im Y i0) Lk a (a + N)) : svz Y (lvl Y (vst U f P s) (vst U f P t) (evz Y od (vst U f P s)) i0) a N = svz Y (lvl Y (vst U f P s) (vst U f P s) (evz Y od (vst U f P s)) i0) a N := by
  have hb := LDW.now hl hmk hnx
  obtain ⟨S0, K, dp, W, mk', M, rk, l1, l2, l3, l4⟩ := hl
  have emk : mk' = mk := l2.1.2.2.2.symm.trans hmk
  subst emk
  have hP := hK.P14
  exact (root_agrees hK.2.2.2.1.1 hK.2.2.2.2.1 hK.2.2.2.1.2.1 hP l3 hi hr (vn := vst U f P s) (vn' := vst U f P s) (fun w hw => ⟨fun _ => rfl, fun pl _ _ _ => rfl⟩) (vx := vst U f P t) (vx' := vst U f P s) (fun w hw => ⟨fun e => by unfold vst; rw [if_pos e, if_pos e], fun pl h14 e hm => by have := hb (pl + 14) (by omega) hm; omega⟩)).1
/-- what a next is -/
theorem lvl_next (hs : SRT Y es i0 1 a rs N) (hn : n < N) (ho : oc Y (a + n) = 3) : ∃ w, w < (Y 15).1 ∧ rch Y (oa Y (a + n)) i0 = nI w ∧ (Y 9).2 (oa Y (a + n)) 2 = 3 := by
  obtain ⟨-, y2, -⟩ := hs n hn
  have hp : plen (oc Y (a + n)) (oa Y (a + n)) = 0 := by rw [ho]; rfl
  rcases y2 hp with ⟨z, -⟩ | ⟨z, -⟩ | ⟨-, z1, z2⟩
  · rw [ho] at z; exact absurd z (by decide)
  · rw [ho] at z; exact absurd z (by decide)
  · have e3 := (z1 ho).1
    rcases z2 with ⟨z3, -⟩ | ⟨z3, w, v, w1, w2, -⟩ | ⟨z3, -⟩
    · rw [e3] at z3; exact absurd z3 (by decide)
    · exact ⟨w, w1, w2, e3⟩
    · rw [e3] at z3; exact absurd z3 (by decide)
theorem lvl_3 {vn vx ev : Nat → Int32} {q : Nat} (ho : oc Y q = 3) (h3 : (Y 9).2 (oa Y q) 2 = 3) (hw : rch Y (oa Y q) i0 = nI w) (hwb : w < 2147483648) : lvl Y vn vx ev i0 q = vx w := by
  unfold lvl
  rw [ho, if_neg (by decide), h3, if_neg (by decide), if_pos rfl, if_pos rfl, hw, nI_clamp hwb]
/-- next(x) stands first -/
theorem eq_left (hK : KNV m U Y P f od es) (hi : i0 < (Y 11).1) (h : rg Y (im Y i0) false a (a + (n + 1))) (ho : oc Y (a + n) = 16 ∨ oc Y (a + n) = 30) (hs : SRT Y es i0 1 a rs (n + 1)) (hn : 1 ≤ n) (h3 : oc Y a = 3) (hS : SBC Y a 1 n) (hw1 : rch Y (oa Y a) i0 = nI w) (hw2 : w < (Y 15).1) (hk3 : (Y 9).2 (oa Y a) 2 = 3) : (∃ Lk : List Bool, rgs Y (im Y i0) Lk (a + 1) (a + n) ∧ Lk.length + 1 = plen (oc Y (a + n)) (oa Y (a + n)) ∧ ¬ true ∈ Lk) ∧ SRT Y es i0 1 (a + 1) (fun q => rs (1 + q)) (n - 1) ∧ ((∀ s t, svz Y (lvl Y (vst U f P s) (vst U f P t) (evz Y od (vst U f P s)) i0) (a + 1) (n - 1) = svz Y (lvl Y (vst U f P s) (vst U f P s) (evz Y od (vst U f P s)) i0) (a + 1) (n - 1)) → ∀ s t, (¬ trs Y U f P od i0 a (n + 1) s t = 0 ↔ CHSw Y U f P od false (a + 1) (n - 1) i0 s (vst U f P t w))) := by
  have hE := rg_E h
  have hEn : ∀ q, q < n → oc Y (a + q) < 32 := fun q hq => hE q (by omega)
  have hv := rg_pl h
  have htp1 : tpz Y a (n + 1) = 1 := by have y := rg_1 h; rw [Nat.add_sub_cancel_left] at y; exact y
  have hvn := hv n (by omega)
  rw [tpz_s] at htp1
  have e1' : tpz Y a 1 = 1 := by show 0 - plen (oc Y (a + 0)) (oa Y (a + 0)) + 1 = 1; omega
  have hTn : tpz Y a n = plen (oc Y (a + n)) (oa Y (a + n)) := by omega
  have hT := hS.tp (n - 1) (by omega)
  rw [show 1 + (n - 1) = n by omega, e1'] at hT
  obtain ⟨g1, g2, g3, g4⟩ := id h
  rw [Nat.add_sub_cancel_left] at g3
  obtain ⟨R, eR⟩ := kst_le g3 (show 1 ≤ n + 1 by omega)
  obtain ⟨Ln, eL⟩ := kst_le g3 (show n ≤ n + 1 by omega)
  have fL := kst_f g3 (by simp) (x := 1) (n := n) (by omega) eL
  obtain ⟨L', k1, k2⟩ := hS.ks eL eR (n - 1) (by omega)
  rw [show 1 + (n - 1) = n by omega, eL] at k2
  have k3 := Option.some.inj k2
  refine ⟨⟨L', ⟨by omega, by omega, by rw [show a + n - (a + 1) = n - 1 by omega]; exact k1, fun q q1 q2 => g4 q (by omega) (by omega)⟩, by rw [kst_tp k1]; omega, fun y => fL (by rw [k3]; exact List.mem_append_left _ y)⟩, hS.srt (N := n) (fun q hq => hs q (by omega)) (by omega), fun hnn s t => ?_⟩
  have b15 := hK.2.2.2.1.1.2.2.2.2.2.2 15 (by decide)
  unfold trs CHSw CHW
  obtain ⟨lv, hlv⟩ : ∃ lv, lv = lvl Y (vst U f P s) (vst U f P t) (evz Y od (vst U f P s)) i0 := ⟨_, rfl⟩
  have hn2 := hnn s t
  rw [← hlv] at hn2 ⊢
  rw [← hn2]
  have c0 : svz Y lv a n 0 = vst U f P t w := by
    have y := hS.lo (lv := lv) (n - 1) (by omega) 0 (by omega)
    rw [show 1 + (n - 1) = n by omega] at y
    rw [y]
    show (if 0 = tpz Y a 0 - plen (oc Y (a + 0)) (oa Y (a + 0)) then (if oc Y (a + 0) ≤ 3 then lv (a + 0) else if oc Y (a + 0) = 32 ∨ oc Y (a + 0) = 33 then nI (snz Y a 0) else ro (svz Y lv a 0) (nI (oc Y (a + 0))) (tpz Y a 0 - plen (oc Y (a + 0)) (oa Y (a + 0))) (tpz Y a 0)) else svz Y lv a 0 0) = _
    have z0 : (0 : Nat) = tpz Y a 0 - plen (oc Y (a + 0)) (oa Y (a + 0)) := (Nat.zero_sub _).symm
    rw [if_pos z0, Nat.add_zero, h3, if_pos (by decide), hlv]
    exact lvl_3 h3 hk3 hw1 (by omega)
  have ck : ∀ q, q < tpz Y (a + 1) (n - 1) → svz Y lv a n (q + 1) = svz Y lv (a + 1) (n - 1) q := fun q hq => by
    have y := hS.sv (lv := lv) hEn (n - 1) (by omega) q hq
    rw [show 1 + (n - 1) = n by omega, e1'] at y
    exact y.symm
  have e0 : svz Y lv a (n + 1) 0 = ro (svz Y lv a n) (nI (oc Y (a + n))) 0 (tpz Y a n) := by
    show (if 0 = tpz Y a n - plen (oc Y (a + n)) (oa Y (a + n)) then (if oc Y (a + n) ≤ 3 then lv (a + n) else if oc Y (a + n) = 32 ∨ oc Y (a + n) = 33 then nI (snz Y a n) else ro (svz Y lv a n) (nI (oc Y (a + n))) (tpz Y a n - plen (oc Y (a + n)) (oa Y (a + n))) (tpz Y a n)) else svz Y lv a n 0) = _
    have z0 : (0 : Nat) = tpz Y a n - plen (oc Y (a + n)) (oa Y (a + n)) := by omega
    have z3 : ¬ oc Y (a + n) ≤ 3 := by omega
    have z32 : ¬ (oc Y (a + n) = 32 ∨ oc Y (a + n) = 33) := by omega
    rw [if_pos z0, if_neg z3, if_neg z32, ← z0]
  have key : ¬ svz Y lv a (n + 1) 0 = 0 ↔ ∃ q, 1 ≤ q ∧ q < tpz Y a n ∧ svz Y lv a n q = svz Y lv a n 0 := by
    rw [e0]
    rcases ho with y | y
    · have hpl2 : tpz Y a n = 2 := by rw [hTn, y]; rfl
      rw [y, hpl2]
      have e2 : ro (svz Y lv a n) (nI 16) 0 2 = if svz Y lv a n 0 = svz Y lv a n 1 then 1 else 0 := rfl
      rw [e2]
      by_cases c1 : svz Y lv a n 0 = svz Y lv a n 1
      · rw [if_pos c1]
        exact ⟨fun _ => ⟨1, Nat.le_refl _, by decide, c1.symm⟩, fun _ => by decide⟩
      · rw [if_neg c1]
        exact ⟨fun z => absurd rfl z, fun ⟨q, q1, q2, q3⟩ => absurd (by rw [show q = 1 by omega] at q3; exact q3.symm) c1⟩
    · rw [y]
      have e2 : ro (svz Y lv a n) (nI 30) 0 (tpz Y a n) = innz (svz Y lv a n) (svz Y lv a n 0) (tpz Y a n - (0 + 1)) (0 + 1) := rfl
      rw [e2, innz_ne]
      exact ⟨fun ⟨q, q1, q2, q3⟩ => ⟨q, by omega, by omega, q3⟩, fun ⟨q, q1, q2, q3⟩ => ⟨q, by omega, by omega, q3⟩⟩
  rw [key, c0]
  constructor
  · rintro ⟨q, q1, q2, q3⟩
    exact Or.inr ⟨rfl, q - 1, by omega, by rw [← ck (q - 1) (by omega), show q - 1 + 1 = q by omega]; exact q3⟩
  · rintro (⟨y, -⟩ | ⟨-, q, q1, q2⟩)
    · exact absurd y (by decide)
    · exact ⟨q + 1, by omega, by omega, by rw [ck q q1]; exact q2⟩
/-- next(x) stands last -/
theorem eq_right (hK : KNV m U Y P f od es) (hi : i0 < (Y 11).1) (h : rg Y (im Y i0) false a (a + (n + 2))) (ho : oc Y (a + (n + 1)) = 16) (hs : SRT Y es i0 1 a rs (n + 2)) (h3 : oc Y (a + n) = 3) (hw1 : rch Y (oa Y (a + n)) i0 = nI w) (hw2 : w < (Y 15).1) (hk3 : (Y 9).2 (oa Y (a + n)) 2 = 3) : rg Y (im Y i0) false a (a + n) ∧ SRT Y es i0 1 a rs n ∧ ((∀ s t, svz Y (lvl Y (vst U f P s) (vst U f P t) (evz Y od (vst U f P s)) i0) a n = svz Y (lvl Y (vst U f P s) (vst U f P s) (evz Y od (vst U f P s)) i0) a n) → ∀ s t, (¬ trs Y U f P od i0 a (n + 2) s t = 0 ↔ CHSw Y U f P od false a n i0 s (vst U f P t w))) := by
  have hpl : plen (oc Y (a + (n + 1))) (oa Y (a + (n + 1))) = 2 := by rw [ho]; rfl
  have hpl0 : plen (oc Y (a + n)) (oa Y (a + n)) = 0 := by rw [h3]; rfl
  obtain ⟨j, j0, j1, h2, hj1, j3, hS, r1, r2⟩ := two_parts h hpl
  have htn : tpz Y a (n + 1) = tpz Y a n + 1 := by rw [tpz_s, hpl0]; omega
  have ejn : j = n := by
    apply Nat.le_antisymm (by omega)
    apply Nat.le_of_not_lt
    intro hlt
    have y := j3 n hlt (by omega)
    omega
  subst ejn
  refine ⟨r1, fun q hq => hs q (by omega), fun hnn s t => ?_⟩
  have b15 := hK.2.2.2.1.1.2.2.2.2.2.2 15 (by decide)
  unfold trs CHSw CHW
  obtain ⟨lv, hlv⟩ : ∃ lv, lv = lvl Y (vst U f P s) (vst U f P t) (evz Y od (vst U f P s)) i0 := ⟨_, rfl⟩
  have hn2 := hnn s t
  rw [← hlv] at hn2 ⊢
  rw [← hn2]
  have c1 : svz Y lv a (j + 1) 1 = vst U f P t w := by
    show (if 1 = tpz Y a j - plen (oc Y (a + j)) (oa Y (a + j)) then (if oc Y (a + j) ≤ 3 then lv (a + j) else if oc Y (a + j) = 32 ∨ oc Y (a + j) = 33 then nI (snz Y a j) else ro (svz Y lv a j) (nI (oc Y (a + j))) (tpz Y a j - plen (oc Y (a + j)) (oa Y (a + j))) (tpz Y a j)) else svz Y lv a j 1) = _
    have z0 : 1 = tpz Y a j - plen (oc Y (a + j)) (oa Y (a + j)) := by omega
    have z3 : oc Y (a + j) ≤ 3 := by omega
    rw [if_pos z0, if_pos z3, hlv]
    exact lvl_3 h3 hk3 hw1 (by omega)
  have c0 : svz Y lv a (j + 1) 0 = svz Y lv a j 0 := by
    show (if 0 = tpz Y a j - plen (oc Y (a + j)) (oa Y (a + j)) then _ else svz Y lv a j 0) = _
    have z0 : ¬ 0 = tpz Y a j - plen (oc Y (a + j)) (oa Y (a + j)) := by omega
    rw [if_neg z0]
  have e0 : svz Y lv a (j + 2) 0 = if svz Y lv a (j + 1) 0 = svz Y lv a (j + 1) 1 then 1 else 0 := by
    show (if 0 = tpz Y a (j + 1) - plen (oc Y (a + (j + 1))) (oa Y (a + (j + 1))) then (if oc Y (a + (j + 1)) ≤ 3 then lv (a + (j + 1)) else if oc Y (a + (j + 1)) = 32 ∨ oc Y (a + (j + 1)) = 33 then nI (snz Y a (j + 1)) else ro (svz Y lv a (j + 1)) (nI (oc Y (a + (j + 1)))) (tpz Y a (j + 1) - plen (oc Y (a + (j + 1))) (oa Y (a + (j + 1)))) (tpz Y a (j + 1))) else svz Y lv a (j + 1) 0) = _
    have z0 : (0 : Nat) = tpz Y a (j + 1) - plen (oc Y (a + (j + 1))) (oa Y (a + (j + 1))) := by omega
    have z3 : ¬ oc Y (a + (j + 1)) ≤ 3 := by omega
    have z32 : ¬ (oc Y (a + (j + 1)) = 32 ∨ oc Y (a + (j + 1)) = 33) := by omega
    rw [if_pos z0, if_neg z3, if_neg z32, ← z0, h2, ho]
    rfl
  rw [e0, c0, c1]
  constructor
  · intro y
    by_cases e : svz Y lv a j 0 = vst U f P t w
    · exact Or.inr ⟨rfl, 0, by omega, e⟩
    · rw [if_neg e] at y
      exact absurd rfl y
  · rintro (⟨y, -⟩ | ⟨-, q, q1, q2⟩)
    · exact absurd y (by decide)
    · rw [show q = 0 by omega] at q2
      rw [if_pos q2]
      decide
end EqualsE
