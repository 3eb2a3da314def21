/-! THE PARSER'S TABLES AS DATA -/
/-- a Rows as data: how many rows, what stands where -/
abbrev Tb := Nat × (Nat → Nat → Int32)
abbrev Ts := Nat → Tb
def tb (H : mu_H) (r W : Nat) : Tb := (gi_sz H r, fun i c => if i < gi_sz H r ∧ c < W then cel H r (i * W + c) else 0)
def tput (W : Nat) (t : Tb) (a b c e : Int32) : Tb := (t.1 + 1, fun i k => if i = t.1 then (if k < W then rw_col a b c e k else 0) else t.2 i k)
def tset (W : Nat) (t : Tb) (row : Int32) (j : Nat) (v : Int32) : Tb := if row < 0 then t else if row.toNatClampNeg < t.1 ∧ j < W then (t.1, fun a b => if a = row.toNatClampNeg ∧ b = j then v else t.2 a b) else t
def tcut (t : Tb) (k : Nat) : Tb := (k, fun i c => if i < k then t.2 i c else 0)
def fu (s : Ts) (j : Nat) (t : Tb) : Ts := fun i => if i = j then t else s i
def wd (j : Nat) : Nat := if j = 11 then 2 else if j = 12 then 3 else ps_W j
def rr (m j : Nat) : Nat := if j = 11 then 89 else if j = 12 then 82 else m + 1 + 2 * j
/-- the tables of the Model at m, the Parser's stack (11) and the TOKENS (12) -/
def ab (m : Nat) (H : mu_H) : Ts := fun j => if j < 13 then tb H (rr m j) (wd j) else (0, fun _ _ => 0)
def tp (j : Nat) (s : Ts) (a b c e : Int32) : Ts := fu s j (tput (wd j) (s j) a b c e)
def tx (j : Nat) (s : Ts) (row : Int32) (c : Nat) (v : Int32) : Ts := fu s j (tset (wd j) (s j) row c v)
def td (s : Ts) : Ts := fu s 11 (tcut (s 11) ((s 11).1 - 1))
section Data
variable {H H1 : mu_H} {m j : Nat} {S : Nat → Bool}
theorem fu_at (s : Ts) (t : Tb) : fu s j t j = t := if_pos rfl
theorem fu_ne {i : Nat} (s : Ts) (t : Tb) (h : i ≠ j) : fu s j t i = s i := if_neg h
theorem tb_eq {r W : Nat} (hz : gi_sz H1 r = gi_sz H r) (hc : ∀ i, i < gi_sz H r * W → cel H1 r i = cel H r i) : tb H1 r W = tb H r W := by
  unfold tb
  rw [hz]
  refine Prod.ext rfl (funext fun i => funext fun c => ?_)
  show (if i < gi_sz H r ∧ c < W then cel H1 r (i * W + c) else 0) = (if i < gi_sz H r ∧ c < W then cel H r (i * W + c) else 0)
  split
  · rename_i hx
    refine hc _ ?_
    have h2 : (i + 1) * W ≤ gi_sz H r * W := Nat.mul_le_mul_right W hx.1
    rw [Nat.succ_mul] at h2
    omega
  · rfl
theorem rr_w (hm : m = 2 ∨ m = 41) (hj : j < 13) : gi_w (rr m j) = some (wd j) := by
  by_cases h1 : j = 11
  · subst h1; rfl
  · by_cases h2 : j = 12
    · subst h2; rfl
    · unfold rr wd
      rw [if_neg h1, if_neg h2, if_neg h1, if_neg h2]
      exact ps_wm hm (by omega)
theorem rr_ne (hm : m = 2 ∨ m = 41) {i : Nat} (hi : i < 13) (hj : j < 13) (h : i ≠ j) : rr m i ≠ rr m j := by
  unfold rr
  split <;> split <;> (try split) <;> (try split) <;> omega
theorem gk.tb {r W W' : Nat} (h : gk S H H1) (hr : gi_w r = some W) (hS : S r = false) : tb H1 r W' = tb H r W' := by
  obtain ⟨-, -, -, hk, ho⟩ := gi_w_ok hr
  have h1 := h.obj hk hS
  refine tb_eq ?_ (fun i _ => ?_)
  · unfold gi_sz; rw [h1.i]
  · unfold cel; rw [h1.r]; exact (h.2.2.2.1 r 1 ho hS).i i
theorem gk.ab (hm : m = 2 ∨ m = 41) (h : gk S H H1) (hS : ∀ j, j < 13 → S (rr m j) = false) : ab m H1 = ab m H := by
  funext j
  show (if j < 13 then _ else _) = (if j < 13 then _ else _)
  split
  · rename_i hj
    exact h.tb (rr_w hm hj) (hS j hj)
  · rfl
theorem gq.tb {r W : Nat} {g : Nat → Int32} (h : gq H H1 r W g) : tb H1 r W = (gi_sz H r + 1, fun i k => if i = gi_sz H r then (if k < W then g k else 0) else (tb H r W).2 i k) := by
  obtain ⟨-, h2, -, -, h5, h6⟩ := h
  refine Prod.ext h2 (funext fun i => funext fun k => ?_)
  show (if i < gi_sz H1 r ∧ k < W then cel H1 r (i * W + k) else 0) = (if i = gi_sz H r then (if k < W then g k else 0) else (if i < gi_sz H r ∧ k < W then cel H r (i * W + k) else 0))
  rw [h2]
  by_cases hk : k < W
  · by_cases hi : i = gi_sz H r
    · subst hi
      rw [if_pos ⟨by omega, hk⟩, if_pos rfl, if_pos hk]
      exact h6 k hk
    · rw [if_neg hi]
      by_cases hi2 : i < gi_sz H r
      · rw [if_pos ⟨by omega, hk⟩, if_pos ⟨hi2, hk⟩]
        refine h5 _ ?_
        have h3 : (i + 1) * W ≤ gi_sz H r * W := Nat.mul_le_mul_right W hi2
        rw [Nat.succ_mul] at h3
        omega
      · rw [if_neg (fun z => by omega), if_neg (fun z => hi2 z.1)]
  · rw [if_neg (fun z => hk z.2), if_neg hk]
    split
    · rfl
    · rw [if_neg (fun z => hk z.2)]
theorem ab_put (hm : m = 2 ∨ m = 41) (hj : j < 13) {a b c e : Int32} (h : gq H H1 (rr m j) (wd j) (rw_col a b c e)) : ab m H1 = tp j (ab m H) a b c e := by
  funext i
  unfold tp
  by_cases hi : i = j
  · subst hi
    rw [fu_at]
    show (if i < 13 then tb H1 (rr m i) (wd i) else _) = tput (wd i) (if i < 13 then tb H (rr m i) (wd i) else _) a b c e
    rw [if_pos hj, if_pos hj]
    exact h.tb
  · rw [fu_ne _ _ hi]
    show (if i < 13 then _ else _) = (if i < 13 then _ else _)
    split
    · rename_i hi2
      refine h.1.tb (rr_w hm hi2) ?_
      cases hx : Nat.beq (rr m i) (rr m j) with
      | false => rfl
      | true => exact absurd (Nat.eq_of_beq_eq_true hx) (rr_ne hm hi2 hj hi)
    · rfl
theorem ab_set (hg : gi H) (hm : m = 2 ∨ m = 41) (hj : j < 13) {row v : Int32} {c : Nat} : ab m (rw_set H (rr m j) (wd j) (gi_sz H (rr m j)) row c v) = tx j (ab m H) row c v := by
  have hw := rr_w hm hj
  have hk : gk (fun p => Nat.beq p (rr m j)) H (rw_set H (rr m j) (wd j) (gi_sz H (rr m j)) row c v) := gk.set hg hw (Nat.beq_refl _)
  funext i
  unfold tx
  by_cases hi : i = j
  · subst hi
    rw [fu_at]
    show (if i < 13 then tb (rw_set H (rr m i) (wd i) (gi_sz H (rr m i)) row c v) (rr m i) (wd i) else _) = tset (wd i) (if i < 13 then tb H (rr m i) (wd i) else _) row c v
    rw [if_pos hj, if_pos hj]
    have hne : (rr m i) ≠ mu_p (mu_r H (rr m i) 1) := (hg.cell hw).1 _ 10 (gi_w_ok hw).2.2.2.1
    unfold rw_set tset
    by_cases h1 : row < 0
    · rw [if_pos h1, if_pos h1]
    · rw [if_neg h1, if_neg h1]
      by_cases h2 : row.toNatClampNeg < gi_sz H (rr m i) ∧ c < wd i
      · rw [if_pos h2, if_pos (show row.toNatClampNeg < (tb H (rr m i) (wd i)).1 ∧ c < wd i from h2)]
        have hz : gi_sz (mu_si H (mu_p (mu_r H (rr m i) 1)) (row.toNatClampNeg * wd i + c) v) (rr m i) = gi_sz H (rr m i) := by
          unfold gi_sz
          rw [mu_i_si, if_neg (fun z => hne z.1)]
        unfold tb
        rw [hz]
        refine Prod.ext rfl (funext fun a => funext fun b => ?_)
        show (if a < gi_sz H (rr m i) ∧ b < wd i then mu_i (mu_si H (mu_p (mu_r H (rr m i) 1)) (row.toNatClampNeg * wd i + c) v) (mu_p (mu_r H (rr m i) 1)) (a * wd i + b) else 0) = (if a = row.toNatClampNeg ∧ b = c then v else (if a < gi_sz H (rr m i) ∧ b < wd i then cel H (rr m i) (a * wd i + b) else 0))
        by_cases h3 : a = row.toNatClampNeg ∧ b = c
        · rw [if_pos h3, if_pos (by rw [h3.1, h3.2]; exact h2), mu_i_si, if_pos ⟨rfl, by rw [h3.1, h3.2]⟩]
        · rw [if_neg h3]
          by_cases h4 : a < gi_sz H (rr m i) ∧ b < wd i
          · rw [if_pos h4, if_pos h4, mu_i_si, if_neg (fun z => h3 ?_)]
            · rfl
            · have e := z.2
              have hW := (gi_w_ok hw).2.1
              have e1 : (a * wd i + b) / wd i = a := by rw [Nat.mul_comm, Nat.mul_add_div hW, Nat.div_eq_of_lt h4.2]; rfl
              have e2 : (row.toNatClampNeg * wd i + c) / wd i = row.toNatClampNeg := by rw [Nat.mul_comm, Nat.mul_add_div hW, Nat.div_eq_of_lt h2.2]; rfl
              have e3 : a = row.toNatClampNeg := by rw [← e1, e, e2]
              refine ⟨e3, ?_⟩
              rw [e3] at e
              omega
          · rw [if_neg h4, if_neg h4]
      · rw [if_neg h2, if_neg (show ¬ (row.toNatClampNeg < (tb H (rr m i) (wd i)).1 ∧ c < wd i) from h2)]
  · rw [fu_ne _ _ hi]
    show (if i < 13 then _ else _) = (if i < 13 then _ else _)
    split
    · rename_i hi2
      refine hk.tb (rr_w hm hi2) ?_
      cases hx : Nat.beq (rr m i) (rr m j) with
      | false => rfl
      | true => exact absurd (Nat.eq_of_beq_eq_true hx) (rr_ne hm hi2 hj hi)
    · rfl
theorem ab_cut (hg : gi H) (hm : m = 2 ∨ m = 41) : ab m (mu_si H 89 2 (nI (gi_sz H 89 - 1))) = td (ab m H) := by
  have hn := rw_n (hg.w (r := 89) (W := 2) rfl)
  obtain ⟨z1, z2, z3⟩ := hg.size (r := 89) (W := 2) rfl (show gi_sz H 89 - 1 ≤ gi_sz H 89 by omega)
  have hk : gk (fun p => Nat.beq p 89) H (mu_si H 89 2 (nI (gi_sz H 89 - 1))) := gk.si hg (k := 10) rfl rfl
  funext i
  unfold td
  by_cases hi : i = 11
  · subst hi
    rw [fu_at]
    show tb (mu_si H 89 2 (nI (gi_sz H 89 - 1))) 89 2 = tcut (tb H 89 2) (gi_sz H 89 - 1)
    unfold tb tcut
    rw [z2]
    refine Prod.ext rfl (funext fun a => funext fun b => ?_)
    show (if a < gi_sz H 89 - 1 ∧ b < 2 then cel (mu_si H 89 2 (nI (gi_sz H 89 - 1))) 89 (a * 2 + b) else 0) = (if a < gi_sz H 89 - 1 then (if a < gi_sz H 89 ∧ b < 2 then cel H 89 (a * 2 + b) else 0) else 0)
    have hc : cel (mu_si H 89 2 (nI (gi_sz H 89 - 1))) 89 (a * 2 + b) = cel H 89 (a * 2 + b) := by
      show mu_i (mu_si H 89 2 (nI (gi_sz H 89 - 1))) (mu_p (mu_r H 89 1)) (a * 2 + b) = mu_i H (mu_p (mu_r H 89 1)) (a * 2 + b)
      rw [mu_i_si, if_neg (fun z => ((hg.cell (r := 89) (W := 2) rfl).1 89 10 rfl).symm z.1)]
    rw [hc]
    by_cases h1 : a < gi_sz H 89 - 1
    · rw [if_pos h1]
      by_cases h2 : b < 2
      · rw [if_pos ⟨h1, h2⟩, if_pos ⟨by omega, h2⟩]
      · rw [if_neg (fun z => h2 z.2), if_neg (fun z => h2 z.2)]
    · rw [if_neg h1, if_neg (fun z => h1 z.1)]
  · rw [fu_ne _ _ hi]
    show (if i < 13 then _ else _) = (if i < 13 then _ else _)
    split
    · rename_i hi2
      refine hk.tb (rr_w hm hi2) ?_
      cases hx : Nat.beq (rr m i) 89 with
      | false => rfl
      | true => exact absurd (Nat.eq_of_beq_eq_true hx) (rr_ne hm hi2 (show 11 < 13 by decide) hi)
    · rfl
theorem ab_si (hg : gi H) (hm : m = 2 ∨ m = 41) {k : Nat} {x : Int32} : ab m (mu_si H 80 k x) = ab m H := by
  refine gk.ab hm (gk.si (S := fun p => Nat.beq p 80) hg (p := 80) (k := 7) rfl rfl) (fun j hj => ?_)
  cases hx : Nat.beq (rr m j) 80 with
  | false => rfl
  | true =>
    have e := Nat.eq_of_beq_eq_true hx
    unfold rr at e
    split at e
    · omega
    · split at e <;> omega
/-- the stack's top and its note -/
def tt (s : Ts) : Int32 := (s 11).2 ((s 11).1 - 1) 0
def tn (s : Ts) : Int32 := (s 11).2 ((s 11).1 - 1) 1
theorem rw_get_tb {r W n : Nat} {i c : Nat} (hi : i < 2147483648) (hn : gi_sz H r = n) : rw_get H r W n (nI i) c = (tb H r W).2 i c := by
  subst hn
  unfold rw_get
  rw [if_neg (nI_pos hi), nI_clamp hi]
  rfl
theorem ps_top_tt (h : ps m H) : ps_top H = tt (ab m H) := by
  have hR := h.1.w (r := 89) (W := 2) rfl
  have hn := rw_n hR
  have e2 : mu_i H 89 2 = nI (gi_sz H 89) := hR.2.2.2.1
  unfold ps_top
  rw [e2]
  show _ = (tb H 89 2).2 (gi_sz H 89 - 1) 0
  cases hs : gi_sz H 89 with
  | zero =>
    show _ = (if 0 - 1 < gi_sz H 89 ∧ 0 < 2 then _ else (0 : Int32))
    rw [hs, if_neg (by omega)]
    exact if_pos (by decide)
  | succ n => rw [nI_pred, rw_get_tb (by omega) hs]; rfl
theorem ps_note_tn (h : ps m H) : ps_note H = tn (ab m H) := by
  have hR := h.1.w (r := 89) (W := 2) rfl
  have hn := rw_n hR
  have e2 : mu_i H 89 2 = nI (gi_sz H 89) := hR.2.2.2.1
  unfold ps_note
  rw [e2]
  show _ = (tb H 89 2).2 (gi_sz H 89 - 1) 1
  cases hs : gi_sz H 89 with
  | zero =>
    show _ = (if 0 - 1 < gi_sz H 89 ∧ 1 < 2 then _ else (0 : Int32))
    rw [hs, if_neg (by omega)]
    exact if_pos (by decide)
  | succ n => rw [nI_pred, rw_get_tb (by omega) hs]; rfl
end Data
