/-! JUDGE: SORTS as data -/
/-- what stands on the Judge's stack -/
def js (H : mu_H) (k : Nat) : Int32 := mu_i H (mu_p (mu_r H 91 2)) k
def dn (m : Nat) (H : mu_H) : Prop := (gi H ∧ (mu_r H 91 3 = some m ∧ mu_r H 92 2 = some m)) ∧ (m = 2 ∨ m = 41)
/-- is an operator timed -/
def tmd (o : Nat) : Prop := (10 ≤ o ∧ o ≤ 15) ∨ o = 28 ∨ o = 29
/-- the SORT of a VAR -/
def vso (W : Ts) (v : Nat) : Int32 := if (W 3).2 v 1 = 0 then 1 else if (W 3).2 v 1 = 2 ∧ ¬ tget (W 4) ((W 3).2 v 2) 1 = 0 then 3 else 2
/-- the SORT of a leaf fits -/
def lok (W : Ts) (es : Nat → Int32) (i : Nat) (al : Int32) (p : Nat) (x : Int32) : Prop :=
  (oc W p = 0 ∧ x = 1) ∨ (oc W p = 1 ∧ x = 2) ∨ ((oc W p = 2 ∨ oc W p = 3) ∧ (oc W p = 3 → (W 9).2 (oa W p) 2 = 3 ∧ al = 1) ∧
    (((W 9).2 (oa W p) 2 = 5 ∧ x = 3) ∨ ((W 9).2 (oa W p) 2 = 3 ∧ ∃ w v, w < (W 15).1 ∧ rch W (oa W p) i = nI w ∧ (W 15).2 w 0 = nI v ∧ v < (W 3).1 ∧ x = vso W v) ∨
     (((W 9).2 (oa W p) 2 = 1 ∨ (W 9).2 (oa W p) 2 = 2) ∧ ∃ e, e < (W 13).1 ∧ rch W (oa W p) i = nI e ∧ x = es e)))
/-- the SORT of an operator and those of its parts fit -/
def jok (S : Nat → Int32) (o b p : Nat) (al x : Int32) : Prop :=
  (tmd o ∧ al = 2 ∧ x = 9 ∧ ∀ q, b ≤ q → q < b + p → S q = 1 ∨ S q = 9) ∨
  ((¬ tmd o ∧ o ≤ 9) ∧ (∀ q, b ≤ q → q < b + p → S q = 1 ∨ S q = 9) ∧ ((x = 1 ∧ ∀ q, b ≤ q → q < b + p → S q = 1) ∨ (x = 9 ∧ ∃ q, b ≤ q ∧ q < b + p ∧ S q = 9))) ∨
  ((o = 31 ∨ o = 34) ∧ ¬ x = 9 ∧ ∀ q, b + 2 * q + 1 < b + p → S (b + 2 * q) = 1 ∧ S (b + 2 * q + 1) = x) ∨
  ((o = 16 ∨ o = 17 ∨ o = 30) ∧ ¬ S b = 9 ∧ (∀ q, b ≤ q → q < b + p → S q = S b) ∧ x = 1) ∨
  ((o = 32 ∨ o = 33) ∧ ¬ S b = 9 ∧ (∀ q, b ≤ q → q < b + p → S q = S b) ∧ x = S b) ∨
  ((18 ≤ o ∧ o ≤ 27) ∧ (∀ q, b ≤ q → q < b + p → S q = 2) ∧ x = if 22 ≤ o then 2 else 1)
/-- the stack of SORTS behind n operators -/
def stk (W : Ts) (rs : Nat → Int32) (a : Nat) : Nat → Nat → Int32
  | 0, _ => 0
  | n + 1, k => if k = tpz W a n - plen (oc W (a + n)) (oa W (a + n)) then rs n else stk W rs a n k
def SRT (W : Ts) (es : Nat → Int32) (i : Nat) (al : Int32) (a : Nat) (rs : Nat → Int32) (N : Nat) : Prop :=
  ∀ n, n < N → ¬ rs n = 0 ∧ (plen (oc W (a + n)) (oa W (a + n)) = 0 → lok W es i al (a + n) (rs n)) ∧ (1 ≤ plen (oc W (a + n)) (oa W (a + n)) → jok (stk W rs a n) (oc W (a + n)) (tpz W a n - plen (oc W (a + n)) (oa W (a + n))) (plen (oc W (a + n)) (oa W (a + n))) al (rs n))
section SortsD
variable {H H1 H2 : mu_H} {d m a b p n N i r k v o : Nat} {W : Ts} {es : Nat → Int32} {al w : Int32} {rs rs' : Nat → Int32}
theorem dn.dm (h : dn m H) : dm m H := ⟨h.1.1, h.2, h.1.2.2, h.1.2.1⟩
theorem dm.dn (h : dm m H) : dn m H := ⟨⟨h.1, h.2.2.2, h.2.2.1⟩, h.2.1⟩
theorem jq.ak (h : jq H H1) (hm : m = 2 ∨ m = 41) : ak m H1 = ak m H := by
  funext j
  show gT (ra m) wa 28 H1 j = gT (ra m) wa 28 H j
  by_cases h27 : j < 28
  · rw [gT_at h27, gT_at h27]
    refine h.1.tb ((ra_ok hm).1 j h27) ?_
    rcases hm with e | e <;> subst e
    · exact (show ∀ j, j < 28 → Nat.beq (ra 2 j) 91 = false by decide +kernel) j h27
    · exact (show ∀ j, j < 28 → Nat.beq (ra 41 j) 91 = false by decide +kernel) j h27
  · rw [gT_out h27, gT_out h27]
theorem dn.store (h : dn m H) {x : Int32} : dn m (mu_si H (mu_p (mu_r H 91 2)) k x) ∧ jq H (mu_si H (mu_p (mu_r H 91 2)) k x) ∧ ∀ q, js (mu_si H (mu_p (mu_r H 91 2)) k x) q = if q = k then x else js H q := by
  obtain ⟨h1, h2⟩ := jd.store (m := m) (i := k) (x := x) (show jd m H from ⟨h.1.1, h.2, h.1.2.1⟩)
  refine ⟨⟨⟨h1.1, h.1.2⟩, h.2⟩, h2, fun q => ?_⟩
  show mu_i (mu_si H (mu_p (mu_r H 91 2)) k x) (mu_p (mu_r H 91 2)) q = _
  rw [mu_i_si]
  by_cases e : q = k
  · rw [if_pos ⟨rfl, e⟩, if_pos e]
  · rw [if_neg (fun z => e z.2), if_neg e]; rfl
theorem stk_eq (h : ∀ q, q < n → rs' q = rs q) (k : Nat) : stk W rs' a n k = stk W rs a n k := by
  induction n with
  | zero => rfl
  | succ n ih =>
    show (if k = _ then rs' n else stk W rs' a n k) = (if k = _ then rs n else stk W rs a n k)
    rw [h n (by omega), ih (fun q hq => h q (by omega))]
theorem SRT_step {x : Int32} (h : SRT W es i al a rs n) (hx : ¬ x = 0) (hl : plen (oc W (a + n)) (oa W (a + n)) = 0 → lok W es i al (a + n) x) (hj : 1 ≤ plen (oc W (a + n)) (oa W (a + n)) → jok (stk W rs a n) (oc W (a + n)) (tpz W a n - plen (oc W (a + n)) (oa W (a + n))) (plen (oc W (a + n)) (oa W (a + n))) al x) : SRT W es i al a (fun q => if q = n then x else rs q) (n + 1) := by
  intro q hq
  have e : stk W (fun q => if q = n then x else rs q) a q = stk W rs a q := funext fun k => stk_eq (fun y hy => if_neg (by omega)) k
  rw [e]
  show ¬ (if q = n then x else rs q) = 0 ∧ (_ → lok W es i al (a + q) (if q = n then x else rs q)) ∧ (_ → jok _ _ _ _ _ (if q = n then x else rs q))
  by_cases eq : q = n
  · rw [if_pos eq, eq]; exact ⟨hx, hl, hj⟩
  · rw [if_neg eq]; exact h q (by omega)
theorem jok_eq {S S' : Nat → Int32} {x : Int32} (h : jok S o b p al x) (hp : 1 ≤ p) (he : ∀ q, b ≤ q → q < b + p → S' q = S q) : jok S' o b p al x := by
  have hb := he b (Nat.le_refl _) (by omega)
  rcases h with ⟨h1, h2, h3, h4⟩ | ⟨h1, h2, h3⟩ | ⟨h1, h2, h3⟩ | ⟨h1, h2, h3, h4⟩ | ⟨h1, h2, h3, h4⟩ | ⟨h1, h2, h3⟩
  · exact Or.inl ⟨h1, h2, h3, fun q a b => by rw [he q a b]; exact h4 q a b⟩
  · refine Or.inr (Or.inl ⟨h1, fun q a b => by rw [he q a b]; exact h2 q a b, h3.imp (fun z => ⟨z.1, fun q a b => by rw [he q a b]; exact z.2 q a b⟩) (fun ⟨z1, q, z2, z3, z4⟩ => ⟨z1, q, z2, z3, by rw [he q z2 z3]; exact z4⟩)⟩)
  · exact Or.inr (Or.inr (Or.inl ⟨h1, h2, fun q hq => by rw [he _ (by omega) (by omega), he _ (by omega) hq]; exact h3 q hq⟩))
  · exact Or.inr (Or.inr (Or.inr (Or.inl ⟨h1, by rw [hb]; exact h2, fun q a b => by rw [he q a b, hb]; exact h3 q a b, h4⟩)))
  · exact Or.inr (Or.inr (Or.inr (Or.inr (Or.inl ⟨h1, by rw [hb]; exact h2, fun q a b => by rw [he q a b, hb]; exact h3 q a b, by rw [hb]; exact h4⟩))))
  · exact Or.inr (Or.inr (Or.inr (Or.inr (Or.inr ⟨h1, fun q a b => by rw [he q a b]; exact h2 q a b, h3⟩))))
theorem stk_step {J J' : Nat → Int32} {x : Int32} (h : ∀ k, k < tpz W a n → J k = stk W rs a n k) (hpl : plen (oc W (a + n)) (oa W (a + n)) ≤ tpz W a n) (hy : ∀ q, J' q = if q = tpz W a n - plen (oc W (a + n)) (oa W (a + n)) then x else J q) : ∀ k, k < tpz W a (n + 1) → J' k = stk W (fun q => if q = n then x else rs q) a (n + 1) k := by
  intro k hk
  have hk : k < tpz W a n - plen (oc W (a + n)) (oa W (a + n)) + 1 := hk
  rw [hy]
  show _ = (if k = tpz W a n - plen (oc W (a + n)) (oa W (a + n)) then (if n = n then x else rs n) else stk W (fun q => if q = n then x else rs q) a n k)
  by_cases e : k = tpz W a n - plen (oc W (a + n)) (oa W (a + n))
  · rw [if_pos e, if_pos e, if_pos rfl]
  · rw [if_neg e, if_neg e, stk_eq (rs := rs) (fun y hy => if_neg (by omega))]
    exact h k (by omega)
theorem rc1v {X : Int32} (h : (X = 5) ∨ (X = 3 ∧ ∃ w v, w < (W 15).1 ∧ rch W r i = nI w ∧ (W 15).2 w 0 = nI v ∧ v < (W 3).1) ∨ (¬ X = 5 ∧ ¬ X = 3 ∧ ∃ e, e < (W 13).1 ∧ rch W r i = nI e)) (hx : X = 1 ∨ X = 2) : ∃ e, e < (W 13).1 ∧ rch W r i = nI e := by
  rcases h with z | z | z
  · exact absurd z (by rcases hx with y | y <;> (rw [y]; decide))
  · exact absurd z.1 (by rcases hx with y | y <;> (rw [y]; decide))
  · exact z.2.2
theorem pv_timed2 (ho : o ≤ 34) : mu_TI (mu_D (d + 1)) 380 [.inl (nI o)] H (fun x H1 => ((x = 0 ∧ ¬ tmd o) ∨ (x = 1 ∧ tmd o)) ∧ H1 = H) := by
  refine mu_meth (M := mu_m380) rfl rfl ?_
  refine mw_ht (mu_fn_of (show [0].Nodup by decide)) ?_
  refine mw_go mu_g380 (k := 2) (f1 := (3, [(0, .inl (nI o))], [.inl (10 : Int32), .inl (nI o)], H)) (C := []) rfl trivial ?_
  refine mw_if (P := (nI o) < (10 : Int32)) (a := 12) (b := 6) (fun _ => rfl) trivial (fun h1 => ?_) (fun h1 => ?_)
  · -- 12: (nI o) < (10 : Int32)
    have nh1 : o < 10 := (nI_ltI (by omega) (by omega)).mp (show nI o < nI 10 from h1)
    refine mw_go mu_g380 (k := 2) (f1 := (15, [(0, .inl (nI o))], [.inl (28 : Int32), .inl (nI o)], H)) (C := []) rfl trivial ?_
    refine mw_if (P := (nI o) = (28 : Int32)) (a := 24) (b := 18) (fun _ => rfl) trivial (fun h2 => ?_) (fun h2 => ?_)
    · -- 24: (nI o) = (28 : Int32)
      have nh2 : o = 28 := (nI_eq (by omega) (by omega)).mp (show nI o = nI 28 from h2)
      refine mw_go mu_g380 (k := 2) (f1 := (29, [(0, .inl (nI o))], [.inl (1 : Int32)], H)) (C := []) rfl trivial ?_
      exact mw_of (fun _ => mu_ret rfl (Or.inr rfl) ⟨_, _, rfl, Or.inr ⟨rfl, by unfold tmd; omega⟩, rfl⟩)
    · -- 18: not (nI o) = (28 : Int32)
      have nh2 : ¬ o = 28 := fun z => h2 (show nI o = nI 28 from (nI_eq (by omega) (by omega)).mpr z)
      refine mw_go mu_g380 (k := 2) (f1 := (21, [(0, .inl (nI o))], [.inl (29 : Int32), .inl (nI o)], H)) (C := []) rfl trivial ?_
      refine mw_if (P := (nI o) = (29 : Int32)) (a := 24) (b := 28) (fun _ => rfl) trivial (fun h3 => ?_) (fun h3 => ?_)
      · -- 24: (nI o) = (29 : Int32)
        have nh3 : o = 29 := (nI_eq (by omega) (by omega)).mp (show nI o = nI 29 from h3)
        refine mw_go mu_g380 (k := 2) (f1 := (29, [(0, .inl (nI o))], [.inl (1 : Int32)], H)) (C := []) rfl trivial ?_
        exact mw_of (fun _ => mu_ret rfl (Or.inr rfl) ⟨_, _, rfl, Or.inr ⟨rfl, by unfold tmd; omega⟩, rfl⟩)
      · -- 28: not (nI o) = (29 : Int32)
        have nh3 : ¬ o = 29 := fun z => h3 (show nI o = nI 29 from (nI_eq (by omega) (by omega)).mpr z)
        refine mw_go mu_g380 (k := 1) (f1 := (29, [(0, .inl (nI o))], [.inl (0 : Int32)], H)) (C := []) rfl trivial ?_
        exact mw_of (fun _ => mu_ret rfl (Or.inl rfl) ⟨_, _, rfl, Or.inl ⟨rfl, by unfold tmd; omega⟩, rfl⟩)
  · -- 6: not (nI o) < (10 : Int32)
    have nh1 : ¬ o < 10 := fun z => h1 (show nI o < nI 10 from (nI_ltI (by omega) (by omega)).mpr z)
    refine mw_go mu_g380 (k := 2) (f1 := (9, [(0, .inl (nI o))], [.inl (15 : Int32), .inl (nI o)], H)) (C := []) rfl trivial ?_
    refine mw_if (P := (15 : Int32) < (nI o)) (a := 12) (b := 24) (fun _ => rfl) trivial (fun h4 => ?_) (fun h4 => ?_)
    · -- 12: (15 : Int32) < (nI o)
      have nh4 : 15 < o := (nI_ltI (by omega) (by omega)).mp (show nI 15 < nI o from h4)
      refine mw_go mu_g380 (k := 2) (f1 := (15, [(0, .inl (nI o))], [.inl (28 : Int32), .inl (nI o)], H)) (C := []) rfl trivial ?_
      refine mw_if (P := (nI o) = (28 : Int32)) (a := 24) (b := 18) (fun _ => rfl) trivial (fun h5 => ?_) (fun h5 => ?_)
      · -- 24: (nI o) = (28 : Int32)
        have nh5 : o = 28 := (nI_eq (by omega) (by omega)).mp (show nI o = nI 28 from h5)
        refine mw_go mu_g380 (k := 2) (f1 := (29, [(0, .inl (nI o))], [.inl (1 : Int32)], H)) (C := []) rfl trivial ?_
        exact mw_of (fun _ => mu_ret rfl (Or.inr rfl) ⟨_, _, rfl, Or.inr ⟨rfl, by unfold tmd; omega⟩, rfl⟩)
      · -- 18: not (nI o) = (28 : Int32)
        have nh5 : ¬ o = 28 := fun z => h5 (show nI o = nI 28 from (nI_eq (by omega) (by omega)).mpr z)
        refine mw_go mu_g380 (k := 2) (f1 := (21, [(0, .inl (nI o))], [.inl (29 : Int32), .inl (nI o)], H)) (C := []) rfl trivial ?_
        refine mw_if (P := (nI o) = (29 : Int32)) (a := 24) (b := 28) (fun _ => rfl) trivial (fun h6 => ?_) (fun h6 => ?_)
        · -- 24: (nI o) = (29 : Int32)
          have nh6 : o = 29 := (nI_eq (by omega) (by omega)).mp (show nI o = nI 29 from h6)
          refine mw_go mu_g380 (k := 2) (f1 := (29, [(0, .inl (nI o))], [.inl (1 : Int32)], H)) (C := []) rfl trivial ?_
          exact mw_of (fun _ => mu_ret rfl (Or.inr rfl) ⟨_, _, rfl, Or.inr ⟨rfl, by unfold tmd; omega⟩, rfl⟩)
        · -- 28: not (nI o) = (29 : Int32)
          have nh6 : ¬ o = 29 := fun z => h6 (show nI o = nI 29 from (nI_eq (by omega) (by omega)).mpr z)
          refine mw_go mu_g380 (k := 1) (f1 := (29, [(0, .inl (nI o))], [.inl (0 : Int32)], H)) (C := []) rfl trivial ?_
          exact mw_of (fun _ => mu_ret rfl (Or.inl rfl) ⟨_, _, rfl, Or.inl ⟨rfl, by unfold tmd; omega⟩, rfl⟩)
    · -- 24: not (15 : Int32) < (nI o)
      have nh4 : ¬ 15 < o := fun z => h4 (show nI 15 < nI o from (nI_ltI (by omega) (by omega)).mpr z)
      refine mw_go mu_g380 (k := 2) (f1 := (29, [(0, .inl (nI o))], [.inl (1 : Int32)], H)) (C := []) rfl trivial ?_
      exact mw_of (fun _ => mu_ret rfl (Or.inr rfl) ⟨_, _, rfl, Or.inr ⟨rfl, by unfold tmd; omega⟩, rfl⟩)
theorem md_sort3 (h : dn m H) (hj : jz W (ak m H)) (hv : v < 2147483648) : mu_TI (mu_D (d + 2)) 126 [.inr (.inr (some m)), .inl (nI v)] H (fun x H1 => x = vso W v ∧ H1 = H) := by
  refine mu_meth (M := mu_m126) rfl rfl ?_
  refine mw_ht (mu_fn_of (show [0, 1].Nodup by decide)) ?_
  refine mw_go mu_g126 (k := 2) (f1 := (4, [(0, .inr (.inr (some m))), (1, .inl (nI v))], [.inr (.inr (mu_r H m 3))], H)) (C := [mu_is H (some m) 6]) rfl (show mu_is H (some m) 6 from (show mu_is H (some m) 6 from gi_im h.1.1 h.2)) ?_
  rw [(show mu_r H m 3 = some (m + 7) from (gi_mr h.1.1 h.2 (j := 3) (by decide)).trans (congrArg some (by omega)))]
  refine mw_go mu_g126 (k := 2) (f1 := (6, [(0, .inr (.inr (some m))), (1, .inl (nI v))], [.inl (1 : Int32), .inl (nI v), .inr (.inr (some (m + 7)))], H)) (C := []) rfl trivial ?_
  refine mw_cIe (fun _ => rfl) (show mu_is H (some (m + 7)) 10 from ((h.1.1.w (md_w3 h.2)).1)) (dm.getr (d := d) (dn.dm h) (rfl : ak m H = ak m H) (j := 3) (by decide) rfl (nI v) (c := 1) (by decide)) ?_
  rw [show (tget (ak m H 3) (nI v) 1) = ((W 3).2 v 1) from ((tget_nI (by omega)).trans (by rw [hj.1 3 (by decide) (by decide) (by decide)]))]
  refine mw_go mu_g126 (k := 2) (f1 := (11, [(2, .inl ((W 3).2 v 1)), (0, .inr (.inr (some m))), (1, .inl (nI v))], [.inl ((W 3).2 v 1)], H)) (C := []) rfl trivial ?_
  refine mw_if (P := ((W 3).2 v 1) = 0) (a := 14) (b := 16) (fun _ => rfl) trivial (fun h2 => ?_) (fun h2 => ?_)
  · -- 14: ((W 3).2 v 1) = 0
    refine mw_go mu_g126 (k := 1) (f1 := (15, [(2, .inl ((W 3).2 v 1)), (0, .inr (.inr (some m))), (1, .inl (nI v))], [.inl (1 : Int32)], H)) (C := []) rfl trivial ?_
    exact mw_of (fun _ => mu_ret rfl trivial ⟨_, _, rfl, (by unfold vso; rw [if_pos h2]), rfl⟩)
  · -- 16: not ((W 3).2 v 1) = 0
    refine mw_go mu_g126 (k := 2) (f1 := (18, [(2, .inl ((W 3).2 v 1)), (0, .inr (.inr (some m))), (1, .inl (nI v))], [.inl (2 : Int32), .inl ((W 3).2 v 1)], H)) (C := []) rfl trivial ?_
    refine mw_if (P := ((W 3).2 v 1) = (2 : Int32)) (a := 21) (b := 45) (fun _ => rfl) trivial (fun h3 => ?_) (fun h3 => ?_)
    · -- 21: ((W 3).2 v 1) = (2 : Int32)
      refine mw_go mu_g126 (k := 2) (f1 := (25, [(2, .inl ((W 3).2 v 1)), (0, .inr (.inr (some m))), (1, .inl (nI v))], [.inr (.inr (mu_r H m 4))], H)) (C := [mu_is H (some m) 6]) rfl (show mu_is H (some m) 6 from (show mu_is H (some m) 6 from gi_im h.1.1 h.2)) ?_
      rw [(show mu_r H m 4 = some (m + 9) from (gi_mr h.1.1 h.2 (j := 4) (by decide)).trans (congrArg some (by omega)))]
      refine mw_go mu_g126 (k := 2) (f1 := (29, [(2, .inl ((W 3).2 v 1)), (0, .inr (.inr (some m))), (1, .inl (nI v))], [.inr (.inr (mu_r H m 3)), .inr (.inr (some (m + 9)))], H)) (C := [mu_is H (some m) 6]) rfl (show mu_is H (some m) 6 from (show mu_is H (some m) 6 from gi_im h.1.1 h.2)) ?_
      rw [(show mu_r H m 3 = some (m + 7) from (gi_mr h.1.1 h.2 (j := 3) (by decide)).trans (congrArg some (by omega)))]
      refine mw_go mu_g126 (k := 2) (f1 := (31, [(2, .inl ((W 3).2 v 1)), (0, .inr (.inr (some m))), (1, .inl (nI v))], [.inl (2 : Int32), .inl (nI v), .inr (.inr (some (m + 7))), .inr (.inr (some (m + 9)))], H)) (C := []) rfl trivial ?_
      refine mw_cIe (fun _ => rfl) (show mu_is H (some (m + 7)) 10 from ((h.1.1.w (md_w3 h.2)).1)) (dm.getr (d := d) (dn.dm h) (rfl : ak m H = ak m H) (j := 3) (by decide) rfl (nI v) (c := 2) (by decide)) ?_
      rw [show (tget (ak m H 3) (nI v) 2) = ((W 3).2 v 2) from ((tget_nI (by omega)).trans (by rw [hj.1 3 (by decide) (by decide) (by decide)]))]
      refine mw_go mu_g126 (k := 1) (f1 := (35, [(2, .inl ((W 3).2 v 1)), (0, .inr (.inr (some m))), (1, .inl (nI v))], [.inl (1 : Int32), .inl ((W 3).2 v 2), .inr (.inr (some (m + 9)))], H)) (C := []) rfl trivial ?_
      refine mw_cIe (fun _ => rfl) (show mu_is H (some (m + 9)) 10 from ((h.1.1.w (md_w4 h.2)).1)) (dm.getr (d := d) (dn.dm h) (rfl : ak m H = ak m H) (j := 4) (by decide) rfl ((W 3).2 v 2) (c := 1) (by decide)) ?_
      rw [show (tget (ak m H 4) ((W 3).2 v 2) 1) = (tget (W 4) ((W 3).2 v 2) 1) from (by rw [hj.1 4 (by decide) (by decide) (by decide)])]
      refine mw_if (P := (tget (W 4) ((W 3).2 v 2) 1) = 0) (a := 45) (b := 41) (fun _ => rfl) trivial (fun h6 => ?_) (fun h6 => ?_)
      · -- 45: (tget (W 4) ((W 3).2 v 2) 1) = 0
        refine mw_go mu_g126 (k := 1) (f1 := (46, [(2, .inl ((W 3).2 v 1)), (0, .inr (.inr (some m))), (1, .inl (nI v))], [.inl (2 : Int32)], H)) (C := []) rfl trivial ?_
        exact mw_of (fun _ => mu_ret rfl trivial ⟨_, _, rfl, (by unfold vso; rw [if_neg h2, if_neg (fun z => z.2 h6)]), rfl⟩)
      · -- 41: not (tget (W 4) ((W 3).2 v 2) 1) = 0
        refine mw_go mu_g126 (k := 2) (f1 := (46, [(2, .inl ((W 3).2 v 1)), (0, .inr (.inr (some m))), (1, .inl (nI v))], [.inl (3 : Int32)], H)) (C := []) rfl trivial ?_
        exact mw_of (fun _ => mu_ret rfl trivial ⟨_, _, rfl, (by unfold vso; rw [if_neg h2, if_pos ⟨h3, h6⟩]), rfl⟩)
    · -- 45: not ((W 3).2 v 1) = (2 : Int32)
      refine mw_go mu_g126 (k := 1) (f1 := (46, [(2, .inl ((W 3).2 v 1)), (0, .inr (.inr (some m))), (1, .inl (nI v))], [.inl (2 : Int32)], H)) (C := []) rfl trivial ?_
      exact mw_of (fun _ => mu_ret rfl trivial ⟨_, _, rfl, (by unfold vso; rw [if_neg h2, if_neg (fun z => h3 z.1)]), rfl⟩)
theorem jg_truths3 (h : dn m H) (hbp : b + p ≤ jn H) : mu_TI (mu_D (d + 1)) 195 [.inr (.inr (some 91)), .inl (nI b), .inl (nI p)] H (fun x H1 => (x = 0 ∧ H = H1) ∨ (x = 1 ∧ H = H1 ∧ ∀ q, b ≤ q → q < b + p → js H q = 1 ∨ js H q = 9)) := by
  have hjn := jn_le h.1.1
  refine mu_meth (M := mu_m195) rfl rfl ?_
  refine mw_ht (mu_fn_of (show [0, 1, 2].Nodup by decide)) ?_
  refine mw_go mu_g195 (k := 2) (f1 := (2, [(3, .inl (nI b)), (0, .inr (.inr (some 91))), (1, .inl (nI b)), (2, .inl (nI p))], [], H)) (C := []) rfl trivial ?_
  refine mw_sub (L' := [(3, .inl (nI b)), (0, .inr (.inr (some 91))), (1, .inl (nI b)), (2, .inl (nI p))]) (by simp) ?_
  refine mw_down (α := Nat) (fun zs => (2, [(3, .inl (nI zs)), (0, .inr (.inr (some 91))), (1, .inl (nI b)), (2, .inl (nI p))], [], H)) (fun zs => b + p - zs) (fun zs => (b ≤ zs) ∧ (zs ≤ b + p) ∧ (∀ q, b ≤ q → q < zs → js H q = 1 ∨ js H q = 9)) (fun zs hza iha => ?_) b ⟨(show b ≤ b from (by omega)), (show b ≤ b + p from (by omega)), (show ∀ q, b ≤ q → q < b → js H q = 1 ∨ js H q = 9 from (fun q h1 h2 => by omega))⟩
  obtain ⟨k, rfl⟩ : ∃ y, y = zs := ⟨zs, rfl⟩
  obtain ⟨hk1, hk2, hT⟩ := hza
  have hk1 : b ≤ k := hk1
  have hk2 : k ≤ b + p := hk2
  have hT : ∀ q, b ≤ q → q < k → js H q = 1 ∨ js H q = 9 := hT
  show mu_W _ _ (2, [(3, .inl (nI k)), (0, .inr (.inr (some 91))), (1, .inl (nI b)), (2, .inl (nI p))], [], H) _
  refine mw_go mu_g195 (k := 4) (f1 := (6, [(3, .inl (nI k)), (0, .inr (.inr (some 91))), (1, .inl (nI b)), (2, .inl (nI p))], [.inl ((nI b) + (nI p)), .inl (nI k)], H)) (C := []) rfl trivial ?_
  rw [(show ((nI b) + (nI p)) = (nI (b + p)) from (nI_add b p))]
  refine mw_if (P := (nI k) < (nI (b + p))) (a := 9) (b := 38) (fun _ => rfl) trivial (fun h1 => ?_) (fun h1 => ?_)
  · -- 9: (nI k) < (nI (b + p))
    have nh1 : k < (b + p) := (nI_ltI (by omega) (by omega)).mp (show nI k < nI (b + p) from h1)
    refine mw_go mu_g195 (k := 2) (f1 := (13, [(3, .inl (nI k)), (0, .inr (.inr (some 91))), (1, .inl (nI b)), (2, .inl (nI p))], [.inr (.inr (mu_r H 91 2))], H)) (C := [mu_is H (some 91) 3]) rfl (show mu_is H (some 91) 3 from (h.1.1.is rfl)) ?_
    refine mw_go mu_g195 (k := 2) (f1 := (15, [(3, .inl (nI k)), (0, .inr (.inr (some 91))), (1, .inl (nI b)), (2, .inl (nI p))], [.inl (mu_i H (mu_p (mu_r H 91 2)) (nI k).toNatClampNeg)], H)) (C := [mu_isr H (mu_r H 91 2) 100, vp_in (nI k) (mu_n H (mu_p (mu_r H 91 2)))]) rfl (show (mu_isr H (mu_r H 91 2) 100) ∧ (vp_in (nI k) (mu_n H (mu_p (mu_r H 91 2)))) from ⟨((h.1.1.o (p := 91) (j := 2) rfl).r), (show vp_in (nI k) (jn H) from vp_in_nI (n := k) (by rw [(jq.refl H).len h.1.1]; omega) (by omega))⟩) ?_
    rw [(show mu_i H (mu_p (mu_r H 91 2)) (nI k).toNatClampNeg = js H k from congrArg (mu_i H (mu_p (mu_r H 91 2))) (show (nI k).toNatClampNeg = k from nI_clamp (by omega)))]
    refine mw_go mu_g195 (k := 1) (f1 := (16, [(3, .inl (nI k)), (0, .inr (.inr (some 91))), (1, .inl (nI b)), (2, .inl (nI p))], [.inl (1 : Int32), .inl (js H k)], H)) (C := []) rfl trivial ?_
    refine mw_if (P := (js H k) = (1 : Int32)) (a := 32) (b := 19) (fun _ => rfl) trivial (fun h2 => ?_) (fun h2 => ?_)
    · -- 32: (js H k) = (1 : Int32)
      refine mw_go mu_g195 (k := 1) (f1 := (35, [(3, .inl ((nI k) + 1)), (0, .inr (.inr (some 91))), (1, .inl (nI b)), (2, .inl (nI p))], [], H)) (C := []) rfl trivial ?_
      rw [(show ((nI k) + 1) = (nI (k + 1)) from (nI_add k 1))]
      refine mw_go mu_g195 (k := 1) (f1 := (2, [(3, .inl (nI (k + 1))), (0, .inr (.inr (some 91))), (1, .inl (nI b)), (2, .inl (nI p))], [], H)) (C := []) rfl trivial ?_
      exact mw_sub (by simp) (iha (k + 1) ⟨(show b ≤ (k + 1) from (by omega)), (show (k + 1) ≤ b + p from (by omega)), (show ∀ q, b ≤ q → q < (k + 1) → js H q = 1 ∨ js H q = 9 from (fun q hq1 hq2 => by by_cases eq : q = k; (rw [eq]; exact Or.inl h2); exact hT q hq1 (by omega)))⟩ (by show b + p - (k + 1) < b + p - k; omega))
    · -- 19: not (js H k) = (1 : Int32)
      refine mw_go mu_g195 (k := 2) (f1 := (23, [(3, .inl (nI k)), (0, .inr (.inr (some 91))), (1, .inl (nI b)), (2, .inl (nI p))], [.inr (.inr (mu_r H 91 2))], H)) (C := [mu_is H (some 91) 3]) rfl (show mu_is H (some 91) 3 from (h.1.1.is rfl)) ?_
      refine mw_go mu_g195 (k := 2) (f1 := (25, [(3, .inl (nI k)), (0, .inr (.inr (some 91))), (1, .inl (nI b)), (2, .inl (nI p))], [.inl (mu_i H (mu_p (mu_r H 91 2)) (nI k).toNatClampNeg)], H)) (C := [mu_isr H (mu_r H 91 2) 100, vp_in (nI k) (mu_n H (mu_p (mu_r H 91 2)))]) rfl (show (mu_isr H (mu_r H 91 2) 100) ∧ (vp_in (nI k) (mu_n H (mu_p (mu_r H 91 2)))) from ⟨((h.1.1.o (p := 91) (j := 2) rfl).r), (show vp_in (nI k) (jn H) from vp_in_nI (n := k) (by rw [(jq.refl H).len h.1.1]; omega) (by omega))⟩) ?_
      rw [(show mu_i H (mu_p (mu_r H 91 2)) (nI k).toNatClampNeg = js H k from congrArg (mu_i H (mu_p (mu_r H 91 2))) (show (nI k).toNatClampNeg = k from nI_clamp (by omega)))]
      refine mw_go mu_g195 (k := 1) (f1 := (27, [(3, .inl (nI k)), (0, .inr (.inr (some 91))), (1, .inl (nI b)), (2, .inl (nI p))], [.inl (9 : Int32), .inl (js H k)], H)) (C := []) rfl trivial ?_
      refine mw_if (P := (js H k) = (9 : Int32)) (a := 32) (b := 30) (fun _ => rfl) trivial (fun h3 => ?_) (fun h3 => ?_)
      · -- 32: (js H k) = (9 : Int32)
        refine mw_go mu_g195 (k := 1) (f1 := (35, [(3, .inl ((nI k) + 1)), (0, .inr (.inr (some 91))), (1, .inl (nI b)), (2, .inl (nI p))], [], H)) (C := []) rfl trivial ?_
        rw [(show ((nI k) + 1) = (nI (k + 1)) from (nI_add k 1))]
        refine mw_go mu_g195 (k := 1) (f1 := (2, [(3, .inl (nI (k + 1))), (0, .inr (.inr (some 91))), (1, .inl (nI b)), (2, .inl (nI p))], [], H)) (C := []) rfl trivial ?_
        exact mw_sub (by simp) (iha (k + 1) ⟨(show b ≤ (k + 1) from (by omega)), (show (k + 1) ≤ b + p from (by omega)), (show ∀ q, b ≤ q → q < (k + 1) → js H q = 1 ∨ js H q = 9 from (fun q hq1 hq2 => by by_cases eq : q = k; (rw [eq]; exact Or.inr h3); exact hT q hq1 (by omega)))⟩ (by show b + p - (k + 1) < b + p - k; omega))
      · -- 30: not (js H k) = (9 : Int32)
        refine mw_go mu_g195 (k := 1) (f1 := (31, [(3, .inl (nI k)), (0, .inr (.inr (some 91))), (1, .inl (nI b)), (2, .inl (nI p))], [.inl (0 : Int32)], H)) (C := []) rfl trivial ?_
        exact mw_of (fun _ => mu_ret rfl (Or.inl rfl) ⟨_, _, rfl, Or.inl ⟨rfl, rfl⟩⟩)
  · -- 38: not (nI k) < (nI (b + p))
    have nh1 : ¬ k < (b + p) := fun z => h1 (show nI k < nI (b + p) from (nI_ltI (by omega) (by omega)).mpr z)
    refine mw_go mu_g195 (k := 1) (f1 := (39, [(3, .inl (nI k)), (0, .inr (.inr (some 91))), (1, .inl (nI b)), (2, .inl (nI p))], [.inl (1 : Int32)], H)) (C := []) rfl trivial ?_
    exact mw_of (fun _ => mu_ret rfl (Or.inr rfl) ⟨_, _, rfl, Or.inr ⟨rfl, rfl, fun q h1 h2 => hT q h1 (by omega)⟩⟩)
theorem jg_all3 (h : dn m H) (hbp : b + p ≤ jn H) : mu_TI (mu_D (d + 1)) 196 [.inr (.inr (some 91)), .inl (nI b), .inl (nI p), .inl w] H (fun x H1 => (x = 0 ∧ H = H1 ∧ ∃ q, b ≤ q ∧ q < b + p ∧ ¬ js H q = w) ∨ (x = 1 ∧ H = H1 ∧ ∀ q, b ≤ q → q < b + p → js H q = w)) := by
  have hjn := jn_le h.1.1
  refine mu_meth (M := mu_m196) rfl rfl ?_
  refine mw_ht (mu_fn_of (show [0, 1, 2, 3].Nodup by decide)) ?_
  refine mw_go mu_g196 (k := 2) (f1 := (3, [(4, .inl (nI b)), (0, .inr (.inr (some 91))), (1, .inl (nI b)), (2, .inl (nI p)), (3, .inl w)], [], H)) (C := []) rfl trivial ?_
  refine mw_sub (L' := [(4, .inl (nI b)), (0, .inr (.inr (some 91))), (1, .inl (nI b)), (2, .inl (nI p)), (3, .inl w)]) (by simp) ?_
  refine mw_down (α := Nat) (fun zs => (3, [(4, .inl (nI zs)), (0, .inr (.inr (some 91))), (1, .inl (nI b)), (2, .inl (nI p)), (3, .inl w)], [], H)) (fun zs => b + p - zs) (fun zs => (b ≤ zs) ∧ (zs ≤ b + p) ∧ (∀ q, b ≤ q → q < zs → js H q = w)) (fun zs hza iha => ?_) b ⟨(show b ≤ b from (by omega)), (show b ≤ b + p from (by omega)), (show ∀ q, b ≤ q → q < b → js H q = w from (fun q h1 h2 => by omega))⟩
  obtain ⟨k, rfl⟩ : ∃ y, y = zs := ⟨zs, rfl⟩
  obtain ⟨hk1, hk2, hT⟩ := hza
  have hk1 : b ≤ k := hk1
  have hk2 : k ≤ b + p := hk2
  have hT : ∀ q, b ≤ q → q < k → js H q = w := hT
  show mu_W _ _ (3, [(4, .inl (nI k)), (0, .inr (.inr (some 91))), (1, .inl (nI b)), (2, .inl (nI p)), (3, .inl w)], [], H) _
  refine mw_go mu_g196 (k := 4) (f1 := (8, [(4, .inl (nI k)), (0, .inr (.inr (some 91))), (1, .inl (nI b)), (2, .inl (nI p)), (3, .inl w)], [.inl ((nI b) + (nI p)), .inl (nI k)], H)) (C := []) rfl trivial ?_
  rw [(show ((nI b) + (nI p)) = (nI (b + p)) from (nI_add b p))]
  refine mw_if (P := (nI k) < (nI (b + p))) (a := 11) (b := 30) (fun _ => rfl) trivial (fun h1 => ?_) (fun h1 => ?_)
  · -- 11: (nI k) < (nI (b + p))
    have nh1 : k < (b + p) := (nI_ltI (by omega) (by omega)).mp (show nI k < nI (b + p) from h1)
    refine mw_go mu_g196 (k := 2) (f1 := (15, [(4, .inl (nI k)), (0, .inr (.inr (some 91))), (1, .inl (nI b)), (2, .inl (nI p)), (3, .inl w)], [.inr (.inr (mu_r H 91 2))], H)) (C := [mu_is H (some 91) 3]) rfl (show mu_is H (some 91) 3 from (h.1.1.is rfl)) ?_
    refine mw_go mu_g196 (k := 2) (f1 := (18, [(4, .inl (nI k)), (0, .inr (.inr (some 91))), (1, .inl (nI b)), (2, .inl (nI p)), (3, .inl w)], [.inl (mu_i H (mu_p (mu_r H 91 2)) (nI k).toNatClampNeg)], H)) (C := [mu_isr H (mu_r H 91 2) 100, vp_in (nI k) (mu_n H (mu_p (mu_r H 91 2)))]) rfl (show (mu_isr H (mu_r H 91 2) 100) ∧ (vp_in (nI k) (mu_n H (mu_p (mu_r H 91 2)))) from ⟨((h.1.1.o (p := 91) (j := 2) rfl).r), (show vp_in (nI k) (jn H) from vp_in_nI (n := k) (by rw [(jq.refl H).len h.1.1]; omega) (by omega))⟩) ?_
    rw [(show mu_i H (mu_p (mu_r H 91 2)) (nI k).toNatClampNeg = js H k from congrArg (mu_i H (mu_p (mu_r H 91 2))) (show (nI k).toNatClampNeg = k from nI_clamp (by omega)))]
    refine mw_go mu_g196 (k := 1) (f1 := (19, [(4, .inl (nI k)), (0, .inr (.inr (some 91))), (1, .inl (nI b)), (2, .inl (nI p)), (3, .inl w)], [.inl w, .inl (js H k)], H)) (C := []) rfl trivial ?_
    refine mw_if (P := (js H k) = w) (a := 24) (b := 22) (fun _ => rfl) trivial (fun h2 => ?_) (fun h2 => ?_)
    · -- 24: (js H k) = w
      refine mw_go mu_g196 (k := 1) (f1 := (27, [(4, .inl ((nI k) + 1)), (0, .inr (.inr (some 91))), (1, .inl (nI b)), (2, .inl (nI p)), (3, .inl w)], [], H)) (C := []) rfl trivial ?_
      rw [(show ((nI k) + 1) = (nI (k + 1)) from (nI_add k 1))]
      refine mw_go mu_g196 (k := 1) (f1 := (3, [(4, .inl (nI (k + 1))), (0, .inr (.inr (some 91))), (1, .inl (nI b)), (2, .inl (nI p)), (3, .inl w)], [], H)) (C := []) rfl trivial ?_
      exact mw_sub (by simp) (iha (k + 1) ⟨(show b ≤ (k + 1) from (by omega)), (show (k + 1) ≤ b + p from (by omega)), (show ∀ q, b ≤ q → q < (k + 1) → js H q = w from (fun q hq1 hq2 => by by_cases eq : q = k; (rw [eq]; exact h2); exact hT q hq1 (by omega)))⟩ (by show b + p - (k + 1) < b + p - k; omega))
    · -- 22: not (js H k) = w
      refine mw_go mu_g196 (k := 1) (f1 := (23, [(4, .inl (nI k)), (0, .inr (.inr (some 91))), (1, .inl (nI b)), (2, .inl (nI p)), (3, .inl w)], [.inl (0 : Int32)], H)) (C := []) rfl trivial ?_
      exact mw_of (fun _ => mu_ret rfl (Or.inl rfl) ⟨_, _, rfl, Or.inl ⟨rfl, rfl, k, by omega, by omega, h2⟩⟩)
  · -- 30: not (nI k) < (nI (b + p))
    have nh1 : ¬ k < (b + p) := fun z => h1 (show nI k < nI (b + p) from (nI_ltI (by omega) (by omega)).mpr z)
    refine mw_go mu_g196 (k := 1) (f1 := (31, [(4, .inl (nI k)), (0, .inr (.inr (some 91))), (1, .inl (nI b)), (2, .inl (nI p)), (3, .inl w)], [.inl (1 : Int32)], H)) (C := []) rfl trivial ?_
    exact mw_of (fun _ => mu_ret rfl (Or.inr rfl) ⟨_, _, rfl, Or.inr ⟨rfl, rfl, fun q h1 h2 => hT q h1 (by omega)⟩⟩)
theorem jg_cases3 (h : dn m H) (hbp : b + p ≤ jn H) (hp2 : 2 ≤ p) : mu_TI (mu_D (d + 1)) 197 [.inr (.inr (some 91)), .inl (nI b), .inl (nI p)] H (fun x H1 => H = H1 ∧ (¬ x = 0 → ¬ x = 9 ∧ ∀ q, b + 2 * q + 1 < b + p → js H (b + 2 * q) = 1 ∧ js H (b + 2 * q + 1) = x)) := by
  have hjn := jn_le h.1.1
  refine mu_meth (M := mu_m197) rfl rfl ?_
  refine mw_ht (mu_fn_of (show [0, 1, 2].Nodup by decide)) ?_
  refine mw_go mu_g197 (k := 2) (f1 := (4, [(0, .inr (.inr (some 91))), (1, .inl (nI b)), (2, .inl (nI p))], [.inr (.inr (mu_r H 91 2))], H)) (C := [mu_is H (some 91) 3]) rfl (show mu_is H (some 91) 3 from (h.1.1.is rfl)) ?_
  refine mw_go mu_g197 (k := 3) (f1 := (7, [(0, .inr (.inr (some 91))), (1, .inl (nI b)), (2, .inl (nI p))], [.inl ((nI b) + (1 : Int32)), .inr (.inr (mu_r H 91 2))], H)) (C := []) rfl trivial ?_
  rw [(show ((nI b) + (1 : Int32)) = (nI (b + 1)) from (nI_add b 1))]
  refine mw_go mu_g197 (k := 1) (f1 := (8, [(0, .inr (.inr (some 91))), (1, .inl (nI b)), (2, .inl (nI p))], [.inl (mu_i H (mu_p (mu_r H 91 2)) (nI (b + 1)).toNatClampNeg)], H)) (C := [mu_isr H (mu_r H 91 2) 100, vp_in (nI (b + 1)) (mu_n H (mu_p (mu_r H 91 2)))]) rfl (show (mu_isr H (mu_r H 91 2) 100) ∧ (vp_in (nI (b + 1)) (mu_n H (mu_p (mu_r H 91 2)))) from ⟨((h.1.1.o (p := 91) (j := 2) rfl).r), (show vp_in (nI (b + 1)) (jn H) from vp_in_nI (n := b + 1) (by rw [(jq.refl H).len h.1.1]; omega) (by omega))⟩) ?_
  rw [(show mu_i H (mu_p (mu_r H 91 2)) (nI (b + 1)).toNatClampNeg = js H (b + 1) from congrArg (mu_i H (mu_p (mu_r H 91 2))) (show (nI (b + 1)).toNatClampNeg = b + 1 from nI_clamp (by omega)))]
  refine mw_go mu_g197 (k := 3) (f1 := (12, [(4, .inl (nI b)), (3, .inl (js H (b + 1))), (0, .inr (.inr (some 91))), (1, .inl (nI b)), (2, .inl (nI p))], [], H)) (C := []) rfl trivial ?_
  show mu_W _ _ (12, [(4, .inl (nI (b + 2 * 0))), (3, .inl (js H (b + 1))), (0, .inr (.inr (some 91))), (1, .inl (nI b)), (2, .inl (nI p))], [], H) _
  refine mw_sub (L' := [(4, .inl (nI (b + 2 * 0))), (0, .inr (.inr (some 91))), (1, .inl (nI b)), (2, .inl (nI p)), (3, .inl (js H (b + 1)))]) (by simp) ?_
  refine mw_down (α := Nat) (fun zs => (12, [(4, .inl (nI (b + 2 * zs))), (0, .inr (.inr (some 91))), (1, .inl (nI b)), (2, .inl (nI p)), (3, .inl (js H (b + 1)))], [], H)) (fun zs => b + p + 2 - 2 * zs) (fun zs => (2 * zs ≤ p + 1) ∧ (∀ y, y < zs → js H (b + 2 * y) = 1 ∧ js H (b + 2 * y + 1) = js H (b + 1))) (fun zs hza iha => ?_) 0 ⟨(show 2 * 0 ≤ p + 1 from (by omega)), (show ∀ y, y < 0 → js H (b + 2 * y) = 1 ∧ js H (b + 2 * y + 1) = js H (b + 1) from (fun y h2 => by omega))⟩
  obtain ⟨k, rfl⟩ : ∃ y, y = zs := ⟨zs, rfl⟩
  obtain ⟨hk2, hT⟩ := hza
  have hk2 : 2 * k ≤ p + 1 := hk2
  have hT : ∀ y, y < k → js H (b + 2 * y) = 1 ∧ js H (b + 2 * y + 1) = js H (b + 1) := hT
  show mu_W _ _ (12, [(4, .inl (nI (b + 2 * k))), (0, .inr (.inr (some 91))), (1, .inl (nI b)), (2, .inl (nI p)), (3, .inl (js H (b + 1)))], [], H) _
  refine mw_go mu_g197 (k := 3) (f1 := (16, [(4, .inl (nI (b + 2 * k))), (0, .inr (.inr (some 91))), (1, .inl (nI b)), (2, .inl (nI p)), (3, .inl (js H (b + 1)))], [.inl ((nI (b + 2 * k)) + (1 : Int32))], H)) (C := []) rfl trivial ?_
  rw [(show ((nI (b + 2 * k)) + (1 : Int32)) = (nI ((b + 2 * k) + 1)) from (nI_add (b + 2 * k) 1))]
  refine mw_go mu_g197 (k := 3) (f1 := (19, [(4, .inl (nI (b + 2 * k))), (0, .inr (.inr (some 91))), (1, .inl (nI b)), (2, .inl (nI p)), (3, .inl (js H (b + 1)))], [.inl ((nI b) + (nI p)), .inl (nI ((b + 2 * k) + 1))], H)) (C := []) rfl trivial ?_
  rw [(show ((nI b) + (nI p)) = (nI (b + p)) from (nI_add b p))]
  refine mw_if (P := (nI ((b + 2 * k) + 1)) < (nI (b + p))) (a := 22) (b := 54) (fun _ => rfl) trivial (fun h1 => ?_) (fun h1 => ?_)
  · -- 22: (nI ((b + 2 * k) + 1)) < (nI (b + p))
    have nh1 : ((b + 2 * k) + 1) < (b + p) := (nI_ltI (by omega) (by omega)).mp (show nI ((b + 2 * k) + 1) < nI (b + p) from h1)
    refine mw_go mu_g197 (k := 2) (f1 := (26, [(4, .inl (nI (b + 2 * k))), (0, .inr (.inr (some 91))), (1, .inl (nI b)), (2, .inl (nI p)), (3, .inl (js H (b + 1)))], [.inr (.inr (mu_r H 91 2))], H)) (C := [mu_is H (some 91) 3]) rfl (show mu_is H (some 91) 3 from (h.1.1.is rfl)) ?_
    refine mw_go mu_g197 (k := 2) (f1 := (29, [(4, .inl (nI (b + 2 * k))), (0, .inr (.inr (some 91))), (1, .inl (nI b)), (2, .inl (nI p)), (3, .inl (js H (b + 1)))], [.inl (mu_i H (mu_p (mu_r H 91 2)) (nI (b + 2 * k)).toNatClampNeg)], H)) (C := [mu_isr H (mu_r H 91 2) 100, vp_in (nI (b + 2 * k)) (mu_n H (mu_p (mu_r H 91 2)))]) rfl (show (mu_isr H (mu_r H 91 2) 100) ∧ (vp_in (nI (b + 2 * k)) (mu_n H (mu_p (mu_r H 91 2)))) from ⟨((h.1.1.o (p := 91) (j := 2) rfl).r), (show vp_in (nI (b + 2 * k)) (jn H) from vp_in_nI (n := b + 2 * k) (by rw [(jq.refl H).len h.1.1]; omega) (by omega))⟩) ?_
    rw [(show mu_i H (mu_p (mu_r H 91 2)) (nI (b + 2 * k)).toNatClampNeg = js H (b + 2 * k) from congrArg (mu_i H (mu_p (mu_r H 91 2))) (show (nI (b + 2 * k)).toNatClampNeg = b + 2 * k from nI_clamp (by omega)))]
    refine mw_go mu_g197 (k := 1) (f1 := (30, [(4, .inl (nI (b + 2 * k))), (0, .inr (.inr (some 91))), (1, .inl (nI b)), (2, .inl (nI p)), (3, .inl (js H (b + 1)))], [.inl (1 : Int32), .inl (js H (b + 2 * k))], H)) (C := []) rfl trivial ?_
    refine mw_if (P := (js H (b + 2 * k)) = (1 : Int32)) (a := 33) (b := 46) (fun _ => rfl) trivial (fun h2 => ?_) (fun h2 => ?_)
    · -- 33: (js H (b + 2 * k)) = (1 : Int32)
      refine mw_go mu_g197 (k := 2) (f1 := (37, [(4, .inl (nI (b + 2 * k))), (0, .inr (.inr (some 91))), (1, .inl (nI b)), (2, .inl (nI p)), (3, .inl (js H (b + 1)))], [.inr (.inr (mu_r H 91 2))], H)) (C := [mu_is H (some 91) 3]) rfl (show mu_is H (some 91) 3 from (h.1.1.is rfl)) ?_
      refine mw_go mu_g197 (k := 3) (f1 := (41, [(4, .inl (nI (b + 2 * k))), (0, .inr (.inr (some 91))), (1, .inl (nI b)), (2, .inl (nI p)), (3, .inl (js H (b + 1)))], [.inl ((nI (b + 2 * k)) + (1 : Int32)), .inr (.inr (mu_r H 91 2))], H)) (C := []) rfl trivial ?_
      rw [(show ((nI (b + 2 * k)) + (1 : Int32)) = (nI ((b + 2 * k) + 1)) from (nI_add (b + 2 * k) 1))]
      refine mw_go mu_g197 (k := 1) (f1 := (42, [(4, .inl (nI (b + 2 * k))), (0, .inr (.inr (some 91))), (1, .inl (nI b)), (2, .inl (nI p)), (3, .inl (js H (b + 1)))], [.inl (mu_i H (mu_p (mu_r H 91 2)) (nI ((b + 2 * k) + 1)).toNatClampNeg)], H)) (C := [mu_isr H (mu_r H 91 2) 100, vp_in (nI ((b + 2 * k) + 1)) (mu_n H (mu_p (mu_r H 91 2)))]) rfl (show (mu_isr H (mu_r H 91 2) 100) ∧ (vp_in (nI ((b + 2 * k) + 1)) (mu_n H (mu_p (mu_r H 91 2)))) from ⟨((h.1.1.o (p := 91) (j := 2) rfl).r), (show vp_in (nI ((b + 2 * k) + 1)) (jn H) from vp_in_nI (n := (b + 2 * k) + 1) (by rw [(jq.refl H).len h.1.1]; omega) (by omega))⟩) ?_
      rw [(show mu_i H (mu_p (mu_r H 91 2)) (nI ((b + 2 * k) + 1)).toNatClampNeg = js H ((b + 2 * k) + 1) from congrArg (mu_i H (mu_p (mu_r H 91 2))) (show (nI ((b + 2 * k) + 1)).toNatClampNeg = (b + 2 * k) + 1 from nI_clamp (by omega)))]
      refine mw_go mu_g197 (k := 1) (f1 := (43, [(4, .inl (nI (b + 2 * k))), (0, .inr (.inr (some 91))), (1, .inl (nI b)), (2, .inl (nI p)), (3, .inl (js H (b + 1)))], [.inl (js H (b + 1)), .inl (js H ((b + 2 * k) + 1))], H)) (C := []) rfl trivial ?_
      refine mw_if (P := (js H ((b + 2 * k) + 1)) = (js H (b + 1))) (a := 48) (b := 46) (fun _ => rfl) trivial (fun h3 => ?_) (fun h3 => ?_)
      · -- 48: (js H ((b + 2 * k) + 1)) = (js H (b + 1))
        refine mw_go mu_g197 (k := 1) (f1 := (51, [(4, .inl ((nI (b + 2 * k)) + 2)), (0, .inr (.inr (some 91))), (1, .inl (nI b)), (2, .inl (nI p)), (3, .inl (js H (b + 1)))], [], H)) (C := []) rfl trivial ?_
        rw [(show ((nI (b + 2 * k)) + 2) = (nI ((b + 2 * k) + 2)) from (nI_add (b + 2 * k) 2))]
        refine mw_go mu_g197 (k := 1) (f1 := (12, [(4, .inl (nI ((b + 2 * k) + 2))), (0, .inr (.inr (some 91))), (1, .inl (nI b)), (2, .inl (nI p)), (3, .inl (js H (b + 1)))], [], H)) (C := []) rfl trivial ?_
        show mu_W _ _ (12, [(4, .inl (nI (b + 2 * (k + 1)))), (0, .inr (.inr (some 91))), (1, .inl (nI b)), (2, .inl (nI p)), (3, .inl (js H (b + 1)))], [], H) _
        exact mw_sub (by simp) (iha (k + 1) ⟨(show 2 * (k + 1) ≤ p + 1 from (by omega)), (show ∀ y, y < (k + 1) → js H (b + 2 * y) = 1 ∧ js H (b + 2 * y + 1) = js H (b + 1) from (fun y hy => by by_cases eq : y = k; (rw [eq]; exact ⟨h2, h3⟩); exact hT y (by omega)))⟩ (by show b + p + 2 - 2 * (k + 1) < b + p + 2 - 2 * k; omega))
      · -- 46: not (js H ((b + 2 * k) + 1)) = (js H (b + 1))
        refine mw_go mu_g197 (k := 1) (f1 := (47, [(4, .inl (nI (b + 2 * k))), (0, .inr (.inr (some 91))), (1, .inl (nI b)), (2, .inl (nI p)), (3, .inl (js H (b + 1)))], [.inl (0 : Int32)], H)) (C := []) rfl trivial ?_
        exact mw_of (fun _ => mu_ret rfl trivial ⟨_, _, rfl, rfl, fun z => absurd rfl z⟩)
    · -- 46: not (js H (b + 2 * k)) = (1 : Int32)
      refine mw_go mu_g197 (k := 1) (f1 := (47, [(4, .inl (nI (b + 2 * k))), (0, .inr (.inr (some 91))), (1, .inl (nI b)), (2, .inl (nI p)), (3, .inl (js H (b + 1)))], [.inl (0 : Int32)], H)) (C := []) rfl trivial ?_
      exact mw_of (fun _ => mu_ret rfl trivial ⟨_, _, rfl, rfl, fun z => absurd rfl z⟩)
  · -- 54: not (nI ((b + 2 * k) + 1)) < (nI (b + p))
    have nh1 : ¬ ((b + 2 * k) + 1) < (b + p) := fun z => h1 (show nI ((b + 2 * k) + 1) < nI (b + p) from (nI_ltI (by omega) (by omega)).mpr z)
    refine mw_go mu_g197 (k := 2) (f1 := (57, [(4, .inl (nI (b + 2 * k))), (0, .inr (.inr (some 91))), (1, .inl (nI b)), (2, .inl (nI p)), (3, .inl (js H (b + 1)))], [.inl (9 : Int32), .inl (js H (b + 1))], H)) (C := []) rfl trivial ?_
    refine mw_if (P := (js H (b + 1)) = (9 : Int32)) (a := 60) (b := 64) (fun _ => rfl) trivial (fun h4 => ?_) (fun h4 => ?_)
    · -- 60: (js H (b + 1)) = (9 : Int32)
      refine mw_go mu_g197 (k := 2) (f1 := (65, [(4, .inl (nI (b + 2 * k))), (0, .inr (.inr (some 91))), (1, .inl (nI b)), (2, .inl (nI p)), (3, .inl (js H (b + 1)))], [.inl (0 : Int32)], H)) (C := []) rfl trivial ?_
      exact mw_of (fun _ => mu_ret rfl trivial ⟨_, _, rfl, rfl, fun z => absurd rfl z⟩)
    · -- 64: not (js H (b + 1)) = (9 : Int32)
      refine mw_go mu_g197 (k := 1) (f1 := (65, [(4, .inl (nI (b + 2 * k))), (0, .inr (.inr (some 91))), (1, .inl (nI b)), (2, .inl (nI p)), (3, .inl (js H (b + 1)))], [.inl (js H (b + 1))], H)) (C := []) rfl trivial ?_
      exact mw_of (fun _ => mu_ret rfl trivial ⟨_, _, rfl, rfl, fun _ => ⟨h4, fun q hq => hT q (by omega)⟩⟩)
theorem jg_joined3 (h : dn m H) (hbp : b + p ≤ jn H) (ho : o ≤ 34) (ho3 : 3 < o) (hp1 : 1 ≤ p) (hp2 : o = 31 ∨ o = 34 → 2 ≤ p) : mu_TI (mu_D (d + 2)) 194 [.inr (.inr (some 91)), .inl (nI o), .inl (nI b), .inl (nI p), .inl al] H (fun x H1 => H = H1 ∧ (x = 0 ∨ jok (js H) o b p al x)) := by
  have hjn := jn_le h.1.1
  refine mu_meth (M := mu_m194) rfl rfl ?_
  refine mw_ht (mu_fn_of (show [0, 1, 2, 3, 4].Nodup by decide)) ?_
  refine mw_go mu_g194 (k := 2) (f1 := (4, [(0, .inr (.inr (some 91))), (1, .inl (nI o)), (2, .inl (nI b)), (3, .inl (nI p)), (4, .inl al)], [.inr (.inr (mu_r H 91 2))], H)) (C := [mu_is H (some 91) 3]) rfl (show mu_is H (some 91) 3 from (h.1.1.is rfl)) ?_
  refine mw_go mu_g194 (k := 2) (f1 := (6, [(0, .inr (.inr (some 91))), (1, .inl (nI o)), (2, .inl (nI b)), (3, .inl (nI p)), (4, .inl al)], [.inl (mu_i H (mu_p (mu_r H 91 2)) (nI b).toNatClampNeg)], H)) (C := [mu_isr H (mu_r H 91 2) 100, vp_in (nI b) (mu_n H (mu_p (mu_r H 91 2)))]) rfl (show (mu_isr H (mu_r H 91 2) 100) ∧ (vp_in (nI b) (mu_n H (mu_p (mu_r H 91 2)))) from ⟨((h.1.1.o (p := 91) (j := 2) rfl).r), (show vp_in (nI b) (jn H) from vp_in_nI (n := b) (by rw [(jq.refl H).len h.1.1]; omega) (by omega))⟩) ?_
  rw [(show mu_i H (mu_p (mu_r H 91 2)) (nI b).toNatClampNeg = js H b from congrArg (mu_i H (mu_p (mu_r H 91 2))) (show (nI b).toNatClampNeg = b from nI_clamp (by omega)))]
  refine mw_go mu_g194 (k := 2) (f1 := (9, [(5, .inl (js H b)), (0, .inr (.inr (some 91))), (1, .inl (nI o)), (2, .inl (nI b)), (3, .inl (nI p)), (4, .inl al)], [.inl (nI o)], H)) (C := []) rfl trivial ?_
  refine mw_cI (fun _ => rfl) trivial ((pv_timed2 (d := d) (H := H) ho).imp (fun x H1 z => show (x = 0 ∧ H = H1 ∧ ¬ tmd o) ∨ (x = 1 ∧ H = H1 ∧ tmd o) from z.1.imp (fun y => ⟨y.1, z.2.symm, y.2⟩) (fun y => ⟨y.1, z.2.symm, y.2⟩))) (fun x1 H1 q1 => ?_)
  rcases q1 with ⟨rfl, rfl, htm⟩ | ⟨rfl, rfl, htm⟩
  · -- (0 : Int32)
    refine mw_if (P := (0 : Int32) = 0) (a := 37) (b := 15) (fun _ => rfl) trivial (fun h2 => ?_) (fun h2 => absurd (by decide) h2)
    refine mw_go mu_g194 (k := 2) (f1 := (40, [(5, .inl (js H b)), (0, .inr (.inr (some 91))), (1, .inl (nI o)), (2, .inl (nI b)), (3, .inl (nI p)), (4, .inl al)], [.inl (9 : Int32), .inl (nI o)], H)) (C := []) rfl trivial ?_
    refine mw_if (P := (9 : Int32) < (nI o)) (a := 71) (b := 43) (fun _ => rfl) trivial (fun h3 => ?_) (fun h3 => ?_)
    · -- 71: (9 : Int32) < (nI o)
      have nh3 : 9 < o := (nI_ltI (by omega) (by omega)).mp (show nI 9 < nI o from h3)
      refine mw_go mu_g194 (k := 2) (f1 := (74, [(5, .inl (js H b)), (0, .inr (.inr (some 91))), (1, .inl (nI o)), (2, .inl (nI b)), (3, .inl (nI p)), (4, .inl al)], [.inl (31 : Int32), .inl (nI o)], H)) (C := []) rfl trivial ?_
      refine mw_if (P := (nI o) = (31 : Int32)) (a := 83) (b := 77) (fun _ => rfl) trivial (fun h4 => ?_) (fun h4 => ?_)
      · -- 83: (nI o) = (31 : Int32)
        have nh4 : o = 31 := (nI_eq (by omega) (by omega)).mp (show nI o = nI 31 from h4)
        refine mw_go mu_g194 (k := 3) (f1 := (86, [(5, .inl (js H b)), (0, .inr (.inr (some 91))), (1, .inl (nI o)), (2, .inl (nI b)), (3, .inl (nI p)), (4, .inl al)], [.inl (nI p), .inl (nI b), .inr (.inr (some 91))], H)) (C := []) rfl trivial ?_
        refine mw_cI (fun _ => rfl) (show mu_is H (some 91) 3 from (h.1.1.is rfl)) (jg_cases3 (d := d) h hbp (hp2 (by omega))) (fun x5 H5 q5 => ?_)
        obtain ⟨rfl, hcs⟩ := q5
        exact mw_of (fun _ => mu_ret rfl trivial ⟨_, _, rfl, rfl, (by by_cases hx0 : x5 = 0; exact Or.inl hx0; exact Or.inr (Or.inr (Or.inr (Or.inl ⟨by omega, (hcs hx0).1, (hcs hx0).2⟩))))⟩)
      · -- 77: not (nI o) = (31 : Int32)
        have nh4 : ¬ o = 31 := fun z => h4 (show nI o = nI 31 from (nI_eq (by omega) (by omega)).mpr z)
        refine mw_go mu_g194 (k := 2) (f1 := (80, [(5, .inl (js H b)), (0, .inr (.inr (some 91))), (1, .inl (nI o)), (2, .inl (nI b)), (3, .inl (nI p)), (4, .inl al)], [.inl (34 : Int32), .inl (nI o)], H)) (C := []) rfl trivial ?_
        refine mw_if (P := (nI o) = (34 : Int32)) (a := 83) (b := 90) (fun _ => rfl) trivial (fun h6 => ?_) (fun h6 => ?_)
        · -- 83: (nI o) = (34 : Int32)
          have nh6 : o = 34 := (nI_eq (by omega) (by omega)).mp (show nI o = nI 34 from h6)
          refine mw_go mu_g194 (k := 3) (f1 := (86, [(5, .inl (js H b)), (0, .inr (.inr (some 91))), (1, .inl (nI o)), (2, .inl (nI b)), (3, .inl (nI p)), (4, .inl al)], [.inl (nI p), .inl (nI b), .inr (.inr (some 91))], H)) (C := []) rfl trivial ?_
          refine mw_cI (fun _ => rfl) (show mu_is H (some 91) 3 from (h.1.1.is rfl)) (jg_cases3 (d := d) h hbp (hp2 (by omega))) (fun x7 H7 q7 => ?_)
          obtain ⟨rfl, hcs⟩ := q7
          exact mw_of (fun _ => mu_ret rfl trivial ⟨_, _, rfl, rfl, (by by_cases hx0 : x7 = 0; exact Or.inl hx0; exact Or.inr (Or.inr (Or.inr (Or.inl ⟨by omega, (hcs hx0).1, (hcs hx0).2⟩))))⟩)
        · -- 90: not (nI o) = (34 : Int32)
          have nh6 : ¬ o = 34 := fun z => h6 (show nI o = nI 34 from (nI_eq (by omega) (by omega)).mpr z)
          refine mw_go mu_g194 (k := 2) (f1 := (94, [(5, .inl (js H b)), (0, .inr (.inr (some 91))), (1, .inl (nI o)), (2, .inl (nI b)), (3, .inl (nI p)), (4, .inl al)], [.inl (9 : Int32), .inl (js H b)], H)) (C := []) rfl trivial ?_
          refine mw_if (P := (js H b) = (9 : Int32)) (a := 112) (b := 97) (fun _ => rfl) trivial (fun h8 => ?_) (fun h8 => ?_)
          · -- 112: (js H b) = (9 : Int32)
            refine mw_go mu_g194 (k := 4) (f1 := (118, [(6, .inl (0 : Int32)), (5, .inl (js H b)), (0, .inr (.inr (some 91))), (1, .inl (nI o)), (2, .inl (nI b)), (3, .inl (nI p)), (4, .inl al)], [.inl (16 : Int32), .inl (nI o)], H)) (C := []) rfl trivial ?_
            refine mw_if (P := (nI o) = (16 : Int32)) (a := 133) (b := 121) (fun _ => rfl) trivial (fun h9 => ?_) (fun h9 => ?_)
            · -- 133: (nI o) = (16 : Int32)
              have nh9 : o = 16 := (nI_eq (by omega) (by omega)).mp (show nI o = nI 16 from h9)
              refine mw_go mu_g194 (k := 1) (f1 := (135, [(6, .inl (0 : Int32)), (5, .inl (js H b)), (0, .inr (.inr (some 91))), (1, .inl (nI o)), (2, .inl (nI b)), (3, .inl (nI p)), (4, .inl al)], [.inl (0 : Int32)], H)) (C := []) rfl trivial ?_
              refine mw_if (P := (0 : Int32) = 0) (a := 142) (b := 138) (fun _ => rfl) trivial (fun h10 => ?_) (fun h10 => absurd (by decide) h10)
              refine mw_go mu_g194 (k := 1) (f1 := (143, [(6, .inl (0 : Int32)), (5, .inl (js H b)), (0, .inr (.inr (some 91))), (1, .inl (nI o)), (2, .inl (nI b)), (3, .inl (nI p)), (4, .inl al)], [.inl (0 : Int32)], H)) (C := []) rfl trivial ?_
              exact mw_of (fun _ => mu_ret rfl trivial ⟨_, _, rfl, rfl, (Or.inl rfl)⟩)
            · -- 121: not (nI o) = (16 : Int32)
              have nh9 : ¬ o = 16 := fun z => h9 (show nI o = nI 16 from (nI_eq (by omega) (by omega)).mpr z)
              refine mw_go mu_g194 (k := 2) (f1 := (124, [(6, .inl (0 : Int32)), (5, .inl (js H b)), (0, .inr (.inr (some 91))), (1, .inl (nI o)), (2, .inl (nI b)), (3, .inl (nI p)), (4, .inl al)], [.inl (17 : Int32), .inl (nI o)], H)) (C := []) rfl trivial ?_
              refine mw_if (P := (nI o) = (17 : Int32)) (a := 133) (b := 127) (fun _ => rfl) trivial (fun h11 => ?_) (fun h11 => ?_)
              · -- 133: (nI o) = (17 : Int32)
                have nh11 : o = 17 := (nI_eq (by omega) (by omega)).mp (show nI o = nI 17 from h11)
                refine mw_go mu_g194 (k := 1) (f1 := (135, [(6, .inl (0 : Int32)), (5, .inl (js H b)), (0, .inr (.inr (some 91))), (1, .inl (nI o)), (2, .inl (nI b)), (3, .inl (nI p)), (4, .inl al)], [.inl (0 : Int32)], H)) (C := []) rfl trivial ?_
                refine mw_if (P := (0 : Int32) = 0) (a := 142) (b := 138) (fun _ => rfl) trivial (fun h12 => ?_) (fun h12 => absurd (by decide) h12)
                refine mw_go mu_g194 (k := 1) (f1 := (143, [(6, .inl (0 : Int32)), (5, .inl (js H b)), (0, .inr (.inr (some 91))), (1, .inl (nI o)), (2, .inl (nI b)), (3, .inl (nI p)), (4, .inl al)], [.inl (0 : Int32)], H)) (C := []) rfl trivial ?_
                exact mw_of (fun _ => mu_ret rfl trivial ⟨_, _, rfl, rfl, (Or.inl rfl)⟩)
              · -- 127: not (nI o) = (17 : Int32)
                have nh11 : ¬ o = 17 := fun z => h11 (show nI o = nI 17 from (nI_eq (by omega) (by omega)).mpr z)
                refine mw_go mu_g194 (k := 2) (f1 := (130, [(6, .inl (0 : Int32)), (5, .inl (js H b)), (0, .inr (.inr (some 91))), (1, .inl (nI o)), (2, .inl (nI b)), (3, .inl (nI p)), (4, .inl al)], [.inl (30 : Int32), .inl (nI o)], H)) (C := []) rfl trivial ?_
                refine mw_if (P := (nI o) = (30 : Int32)) (a := 133) (b := 144) (fun _ => rfl) trivial (fun h13 => ?_) (fun h13 => ?_)
                · -- 133: (nI o) = (30 : Int32)
                  have nh13 : o = 30 := (nI_eq (by omega) (by omega)).mp (show nI o = nI 30 from h13)
                  refine mw_go mu_g194 (k := 1) (f1 := (135, [(6, .inl (0 : Int32)), (5, .inl (js H b)), (0, .inr (.inr (some 91))), (1, .inl (nI o)), (2, .inl (nI b)), (3, .inl (nI p)), (4, .inl al)], [.inl (0 : Int32)], H)) (C := []) rfl trivial ?_
                  refine mw_if (P := (0 : Int32) = 0) (a := 142) (b := 138) (fun _ => rfl) trivial (fun h14 => ?_) (fun h14 => absurd (by decide) h14)
                  refine mw_go mu_g194 (k := 1) (f1 := (143, [(6, .inl (0 : Int32)), (5, .inl (js H b)), (0, .inr (.inr (some 91))), (1, .inl (nI o)), (2, .inl (nI b)), (3, .inl (nI p)), (4, .inl al)], [.inl (0 : Int32)], H)) (C := []) rfl trivial ?_
                  exact mw_of (fun _ => mu_ret rfl trivial ⟨_, _, rfl, rfl, (Or.inl rfl)⟩)
                · -- 144: not (nI o) = (30 : Int32)
                  have nh13 : ¬ o = 30 := fun z => h13 (show nI o = nI 30 from (nI_eq (by omega) (by omega)).mpr z)
                  refine mw_go mu_g194 (k := 2) (f1 := (147, [(6, .inl (0 : Int32)), (5, .inl (js H b)), (0, .inr (.inr (some 91))), (1, .inl (nI o)), (2, .inl (nI b)), (3, .inl (nI p)), (4, .inl al)], [.inl (32 : Int32), .inl (nI o)], H)) (C := []) rfl trivial ?_
                  refine mw_if (P := (nI o) = (32 : Int32)) (a := 156) (b := 150) (fun _ => rfl) trivial (fun h15 => ?_) (fun h15 => ?_)
                  · -- 156: (nI o) = (32 : Int32)
                    have nh15 : o = 32 := (nI_eq (by omega) (by omega)).mp (show nI o = nI 32 from h15)
                    refine mw_go mu_g194 (k := 1) (f1 := (158, [(6, .inl (0 : Int32)), (5, .inl (js H b)), (0, .inr (.inr (some 91))), (1, .inl (nI o)), (2, .inl (nI b)), (3, .inl (nI p)), (4, .inl al)], [.inl (0 : Int32)], H)) (C := []) rfl trivial ?_
                    refine mw_if (P := (0 : Int32) = 0) (a := 166) (b := 161) (fun _ => rfl) trivial (fun h16 => ?_) (fun h16 => absurd (by decide) h16)
                    refine mw_go mu_g194 (k := 1) (f1 := (167, [(6, .inl (0 : Int32)), (5, .inl (js H b)), (0, .inr (.inr (some 91))), (1, .inl (nI o)), (2, .inl (nI b)), (3, .inl (nI p)), (4, .inl al)], [.inl (0 : Int32)], H)) (C := []) rfl trivial ?_
                    exact mw_of (fun _ => mu_ret rfl trivial ⟨_, _, rfl, rfl, (Or.inl rfl)⟩)
                  · -- 150: not (nI o) = (32 : Int32)
                    have nh15 : ¬ o = 32 := fun z => h15 (show nI o = nI 32 from (nI_eq (by omega) (by omega)).mpr z)
                    refine mw_go mu_g194 (k := 2) (f1 := (153, [(6, .inl (0 : Int32)), (5, .inl (js H b)), (0, .inr (.inr (some 91))), (1, .inl (nI o)), (2, .inl (nI b)), (3, .inl (nI p)), (4, .inl al)], [.inl (33 : Int32), .inl (nI o)], H)) (C := []) rfl trivial ?_
                    refine mw_if (P := (nI o) = (33 : Int32)) (a := 156) (b := 168) (fun _ => rfl) trivial (fun h17 => ?_) (fun h17 => ?_)
                    · -- 156: (nI o) = (33 : Int32)
                      have nh17 : o = 33 := (nI_eq (by omega) (by omega)).mp (show nI o = nI 33 from h17)
                      refine mw_go mu_g194 (k := 1) (f1 := (158, [(6, .inl (0 : Int32)), (5, .inl (js H b)), (0, .inr (.inr (some 91))), (1, .inl (nI o)), (2, .inl (nI b)), (3, .inl (nI p)), (4, .inl al)], [.inl (0 : Int32)], H)) (C := []) rfl trivial ?_
                      refine mw_if (P := (0 : Int32) = 0) (a := 166) (b := 161) (fun _ => rfl) trivial (fun h18 => ?_) (fun h18 => absurd (by decide) h18)
                      refine mw_go mu_g194 (k := 1) (f1 := (167, [(6, .inl (0 : Int32)), (5, .inl (js H b)), (0, .inr (.inr (some 91))), (1, .inl (nI o)), (2, .inl (nI b)), (3, .inl (nI p)), (4, .inl al)], [.inl (0 : Int32)], H)) (C := []) rfl trivial ?_
                      exact mw_of (fun _ => mu_ret rfl trivial ⟨_, _, rfl, rfl, (Or.inl rfl)⟩)
                    · -- 168: not (nI o) = (33 : Int32)
                      have nh17 : ¬ o = 33 := fun z => h17 (show nI o = nI 33 from (nI_eq (by omega) (by omega)).mpr z)
                      refine mw_go mu_g194 (k := 1) (f1 := (170, [(6, .inl (0 : Int32)), (5, .inl (js H b)), (0, .inr (.inr (some 91))), (1, .inl (nI o)), (2, .inl (nI b)), (3, .inl (nI p)), (4, .inl al)], [.inl (0 : Int32)], H)) (C := []) rfl trivial ?_
                      refine mw_if (P := (0 : Int32) = 0) (a := 179) (b := 173) (fun _ => rfl) trivial (fun h19 => ?_) (fun h19 => absurd (by decide) h19)
                      refine mw_go mu_g194 (k := 1) (f1 := (180, [(6, .inl (0 : Int32)), (5, .inl (js H b)), (0, .inr (.inr (some 91))), (1, .inl (nI o)), (2, .inl (nI b)), (3, .inl (nI p)), (4, .inl al)], [.inl (0 : Int32)], H)) (C := []) rfl trivial ?_
                      exact mw_of (fun _ => mu_ret rfl trivial ⟨_, _, rfl, rfl, (Or.inl rfl)⟩)
          · -- 97: not (js H b) = (9 : Int32)
            refine mw_go mu_g194 (k := 4) (f1 := (102, [(5, .inl (js H b)), (0, .inr (.inr (some 91))), (1, .inl (nI o)), (2, .inl (nI b)), (3, .inl (nI p)), (4, .inl al)], [.inl (js H b), .inl (nI p), .inl (nI b), .inr (.inr (some 91))], H)) (C := []) rfl trivial ?_
            refine mw_cI (fun _ => rfl) (show mu_is H (some 91) 3 from (h.1.1.is rfl)) (jg_all3 (d := d) h hbp) (fun x20 H20 q20 => ?_)
            rcases q20 with ⟨rfl, rfl, hB20⟩ | ⟨rfl, rfl, hA20⟩
            · -- (0 : Int32)
              refine mw_if (P := (0 : Int32) = 0) (a := 112) (b := 108) (fun _ => rfl) trivial (fun h21 => ?_) (fun h21 => absurd (by decide) h21)
              refine mw_go mu_g194 (k := 4) (f1 := (118, [(6, .inl (0 : Int32)), (5, .inl (js H b)), (0, .inr (.inr (some 91))), (1, .inl (nI o)), (2, .inl (nI b)), (3, .inl (nI p)), (4, .inl al)], [.inl (16 : Int32), .inl (nI o)], H)) (C := []) rfl trivial ?_
              refine mw_if (P := (nI o) = (16 : Int32)) (a := 133) (b := 121) (fun _ => rfl) trivial (fun h22 => ?_) (fun h22 => ?_)
              · -- 133: (nI o) = (16 : Int32)
                have nh22 : o = 16 := (nI_eq (by omega) (by omega)).mp (show nI o = nI 16 from h22)
                refine mw_go mu_g194 (k := 1) (f1 := (135, [(6, .inl (0 : Int32)), (5, .inl (js H b)), (0, .inr (.inr (some 91))), (1, .inl (nI o)), (2, .inl (nI b)), (3, .inl (nI p)), (4, .inl al)], [.inl (0 : Int32)], H)) (C := []) rfl trivial ?_
                refine mw_if (P := (0 : Int32) = 0) (a := 142) (b := 138) (fun _ => rfl) trivial (fun h23 => ?_) (fun h23 => absurd (by decide) h23)
                refine mw_go mu_g194 (k := 1) (f1 := (143, [(6, .inl (0 : Int32)), (5, .inl (js H b)), (0, .inr (.inr (some 91))), (1, .inl (nI o)), (2, .inl (nI b)), (3, .inl (nI p)), (4, .inl al)], [.inl (0 : Int32)], H)) (C := []) rfl trivial ?_
                exact mw_of (fun _ => mu_ret rfl trivial ⟨_, _, rfl, rfl, (Or.inl rfl)⟩)
              · -- 121: not (nI o) = (16 : Int32)
                have nh22 : ¬ o = 16 := fun z => h22 (show nI o = nI 16 from (nI_eq (by omega) (by omega)).mpr z)
                refine mw_go mu_g194 (k := 2) (f1 := (124, [(6, .inl (0 : Int32)), (5, .inl (js H b)), (0, .inr (.inr (some 91))), (1, .inl (nI o)), (2, .inl (nI b)), (3, .inl (nI p)), (4, .inl al)], [.inl (17 : Int32), .inl (nI o)], H)) (C := []) rfl trivial ?_
                refine mw_if (P := (nI o) = (17 : Int32)) (a := 133) (b := 127) (fun _ => rfl) trivial (fun h24 => ?_) (fun h24 => ?_)
                · -- 133: (nI o) = (17 : Int32)
                  have nh24 : o = 17 := (nI_eq (by omega) (by omega)).mp (show nI o = nI 17 from h24)
                  refine mw_go mu_g194 (k := 1) (f1 := (135, [(6, .inl (0 : Int32)), (5, .inl (js H b)), (0, .inr (.inr (some 91))), (1, .inl (nI o)), (2, .inl (nI b)), (3, .inl (nI p)), (4, .inl al)], [.inl (0 : Int32)], H)) (C := []) rfl trivial ?_
                  refine mw_if (P := (0 : Int32) = 0) (a := 142) (b := 138) (fun _ => rfl) trivial (fun h25 => ?_) (fun h25 => absurd (by decide) h25)
                  refine mw_go mu_g194 (k := 1) (f1 := (143, [(6, .inl (0 : Int32)), (5, .inl (js H b)), (0, .inr (.inr (some 91))), (1, .inl (nI o)), (2, .inl (nI b)), (3, .inl (nI p)), (4, .inl al)], [.inl (0 : Int32)], H)) (C := []) rfl trivial ?_
                  exact mw_of (fun _ => mu_ret rfl trivial ⟨_, _, rfl, rfl, (Or.inl rfl)⟩)
                · -- 127: not (nI o) = (17 : Int32)
                  have nh24 : ¬ o = 17 := fun z => h24 (show nI o = nI 17 from (nI_eq (by omega) (by omega)).mpr z)
                  refine mw_go mu_g194 (k := 2) (f1 := (130, [(6, .inl (0 : Int32)), (5, .inl (js H b)), (0, .inr (.inr (some 91))), (1, .inl (nI o)), (2, .inl (nI b)), (3, .inl (nI p)), (4, .inl al)], [.inl (30 : Int32), .inl (nI o)], H)) (C := []) rfl trivial ?_
                  refine mw_if (P := (nI o) = (30 : Int32)) (a := 133) (b := 144) (fun _ => rfl) trivial (fun h26 => ?_) (fun h26 => ?_)
                  · -- 133: (nI o) = (30 : Int32)
                    have nh26 : o = 30 := (nI_eq (by omega) (by omega)).mp (show nI o = nI 30 from h26)
                    refine mw_go mu_g194 (k := 1) (f1 := (135, [(6, .inl (0 : Int32)), (5, .inl (js H b)), (0, .inr (.inr (some 91))), (1, .inl (nI o)), (2, .inl (nI b)), (3, .inl (nI p)), (4, .inl al)], [.inl (0 : Int32)], H)) (C := []) rfl trivial ?_
                    refine mw_if (P := (0 : Int32) = 0) (a := 142) (b := 138) (fun _ => rfl) trivial (fun h27 => ?_) (fun h27 => absurd (by decide) h27)
                    refine mw_go mu_g194 (k := 1) (f1 := (143, [(6, .inl (0 : Int32)), (5, .inl (js H b)), (0, .inr (.inr (some 91))), (1, .inl (nI o)), (2, .inl (nI b)), (3, .inl (nI p)), (4, .inl al)], [.inl (0 : Int32)], H)) (C := []) rfl trivial ?_
                    exact mw_of (fun _ => mu_ret rfl trivial ⟨_, _, rfl, rfl, (Or.inl rfl)⟩)
                  · -- 144: not (nI o) = (30 : Int32)
                    have nh26 : ¬ o = 30 := fun z => h26 (show nI o = nI 30 from (nI_eq (by omega) (by omega)).mpr z)
                    refine mw_go mu_g194 (k := 2) (f1 := (147, [(6, .inl (0 : Int32)), (5, .inl (js H b)), (0, .inr (.inr (some 91))), (1, .inl (nI o)), (2, .inl (nI b)), (3, .inl (nI p)), (4, .inl al)], [.inl (32 : Int32), .inl (nI o)], H)) (C := []) rfl trivial ?_
                    refine mw_if (P := (nI o) = (32 : Int32)) (a := 156) (b := 150) (fun _ => rfl) trivial (fun h28 => ?_) (fun h28 => ?_)
                    · -- 156: (nI o) = (32 : Int32)
                      have nh28 : o = 32 := (nI_eq (by omega) (by omega)).mp (show nI o = nI 32 from h28)
                      refine mw_go mu_g194 (k := 1) (f1 := (158, [(6, .inl (0 : Int32)), (5, .inl (js H b)), (0, .inr (.inr (some 91))), (1, .inl (nI o)), (2, .inl (nI b)), (3, .inl (nI p)), (4, .inl al)], [.inl (0 : Int32)], H)) (C := []) rfl trivial ?_
                      refine mw_if (P := (0 : Int32) = 0) (a := 166) (b := 161) (fun _ => rfl) trivial (fun h29 => ?_) (fun h29 => absurd (by decide) h29)
                      refine mw_go mu_g194 (k := 1) (f1 := (167, [(6, .inl (0 : Int32)), (5, .inl (js H b)), (0, .inr (.inr (some 91))), (1, .inl (nI o)), (2, .inl (nI b)), (3, .inl (nI p)), (4, .inl al)], [.inl (0 : Int32)], H)) (C := []) rfl trivial ?_
                      exact mw_of (fun _ => mu_ret rfl trivial ⟨_, _, rfl, rfl, (Or.inl rfl)⟩)
                    · -- 150: not (nI o) = (32 : Int32)
                      have nh28 : ¬ o = 32 := fun z => h28 (show nI o = nI 32 from (nI_eq (by omega) (by omega)).mpr z)
                      refine mw_go mu_g194 (k := 2) (f1 := (153, [(6, .inl (0 : Int32)), (5, .inl (js H b)), (0, .inr (.inr (some 91))), (1, .inl (nI o)), (2, .inl (nI b)), (3, .inl (nI p)), (4, .inl al)], [.inl (33 : Int32), .inl (nI o)], H)) (C := []) rfl trivial ?_
                      refine mw_if (P := (nI o) = (33 : Int32)) (a := 156) (b := 168) (fun _ => rfl) trivial (fun h30 => ?_) (fun h30 => ?_)
                      · -- 156: (nI o) = (33 : Int32)
                        have nh30 : o = 33 := (nI_eq (by omega) (by omega)).mp (show nI o = nI 33 from h30)
                        refine mw_go mu_g194 (k := 1) (f1 := (158, [(6, .inl (0 : Int32)), (5, .inl (js H b)), (0, .inr (.inr (some 91))), (1, .inl (nI o)), (2, .inl (nI b)), (3, .inl (nI p)), (4, .inl al)], [.inl (0 : Int32)], H)) (C := []) rfl trivial ?_
                        refine mw_if (P := (0 : Int32) = 0) (a := 166) (b := 161) (fun _ => rfl) trivial (fun h31 => ?_) (fun h31 => absurd (by decide) h31)
                        refine mw_go mu_g194 (k := 1) (f1 := (167, [(6, .inl (0 : Int32)), (5, .inl (js H b)), (0, .inr (.inr (some 91))), (1, .inl (nI o)), (2, .inl (nI b)), (3, .inl (nI p)), (4, .inl al)], [.inl (0 : Int32)], H)) (C := []) rfl trivial ?_
                        exact mw_of (fun _ => mu_ret rfl trivial ⟨_, _, rfl, rfl, (Or.inl rfl)⟩)
                      · -- 168: not (nI o) = (33 : Int32)
                        have nh30 : ¬ o = 33 := fun z => h30 (show nI o = nI 33 from (nI_eq (by omega) (by omega)).mpr z)
                        refine mw_go mu_g194 (k := 1) (f1 := (170, [(6, .inl (0 : Int32)), (5, .inl (js H b)), (0, .inr (.inr (some 91))), (1, .inl (nI o)), (2, .inl (nI b)), (3, .inl (nI p)), (4, .inl al)], [.inl (0 : Int32)], H)) (C := []) rfl trivial ?_
                        refine mw_if (P := (0 : Int32) = 0) (a := 179) (b := 173) (fun _ => rfl) trivial (fun h32 => ?_) (fun h32 => absurd (by decide) h32)
                        refine mw_go mu_g194 (k := 1) (f1 := (180, [(6, .inl (0 : Int32)), (5, .inl (js H b)), (0, .inr (.inr (some 91))), (1, .inl (nI o)), (2, .inl (nI b)), (3, .inl (nI p)), (4, .inl al)], [.inl (0 : Int32)], H)) (C := []) rfl trivial ?_
                        exact mw_of (fun _ => mu_ret rfl trivial ⟨_, _, rfl, rfl, (Or.inl rfl)⟩)
            · -- (1 : Int32)
              refine mw_if (P := (1 : Int32) = 0) (a := 112) (b := 108) (fun _ => rfl) trivial (fun h33 => absurd h33 (by decide)) (fun h33 => ?_)
              refine mw_go mu_g194 (k := 5) (f1 := (118, [(6, .inl (1 : Int32)), (5, .inl (js H b)), (0, .inr (.inr (some 91))), (1, .inl (nI o)), (2, .inl (nI b)), (3, .inl (nI p)), (4, .inl al)], [.inl (16 : Int32), .inl (nI o)], H)) (C := []) rfl trivial ?_
              refine mw_if (P := (nI o) = (16 : Int32)) (a := 133) (b := 121) (fun _ => rfl) trivial (fun h34 => ?_) (fun h34 => ?_)
              · -- 133: (nI o) = (16 : Int32)
                have nh34 : o = 16 := (nI_eq (by omega) (by omega)).mp (show nI o = nI 16 from h34)
                refine mw_go mu_g194 (k := 1) (f1 := (135, [(6, .inl (1 : Int32)), (5, .inl (js H b)), (0, .inr (.inr (some 91))), (1, .inl (nI o)), (2, .inl (nI b)), (3, .inl (nI p)), (4, .inl al)], [.inl (1 : Int32)], H)) (C := []) rfl trivial ?_
                refine mw_if (P := (1 : Int32) = 0) (a := 142) (b := 138) (fun _ => rfl) trivial (fun h35 => absurd h35 (by decide)) (fun h35 => ?_)
                refine mw_go mu_g194 (k := 2) (f1 := (143, [(6, .inl (1 : Int32)), (5, .inl (js H b)), (0, .inr (.inr (some 91))), (1, .inl (nI o)), (2, .inl (nI b)), (3, .inl (nI p)), (4, .inl al)], [.inl (1 : Int32)], H)) (C := []) rfl trivial ?_
                exact mw_of (fun _ => mu_ret rfl trivial ⟨_, _, rfl, rfl, (Or.inr (Or.inr (Or.inr (Or.inr (Or.inl ⟨by omega, h8, hA20, rfl⟩)))))⟩)
              · -- 121: not (nI o) = (16 : Int32)
                have nh34 : ¬ o = 16 := fun z => h34 (show nI o = nI 16 from (nI_eq (by omega) (by omega)).mpr z)
                refine mw_go mu_g194 (k := 2) (f1 := (124, [(6, .inl (1 : Int32)), (5, .inl (js H b)), (0, .inr (.inr (some 91))), (1, .inl (nI o)), (2, .inl (nI b)), (3, .inl (nI p)), (4, .inl al)], [.inl (17 : Int32), .inl (nI o)], H)) (C := []) rfl trivial ?_
                refine mw_if (P := (nI o) = (17 : Int32)) (a := 133) (b := 127) (fun _ => rfl) trivial (fun h36 => ?_) (fun h36 => ?_)
                · -- 133: (nI o) = (17 : Int32)
                  have nh36 : o = 17 := (nI_eq (by omega) (by omega)).mp (show nI o = nI 17 from h36)
                  refine mw_go mu_g194 (k := 1) (f1 := (135, [(6, .inl (1 : Int32)), (5, .inl (js H b)), (0, .inr (.inr (some 91))), (1, .inl (nI o)), (2, .inl (nI b)), (3, .inl (nI p)), (4, .inl al)], [.inl (1 : Int32)], H)) (C := []) rfl trivial ?_
                  refine mw_if (P := (1 : Int32) = 0) (a := 142) (b := 138) (fun _ => rfl) trivial (fun h37 => absurd h37 (by decide)) (fun h37 => ?_)
                  refine mw_go mu_g194 (k := 2) (f1 := (143, [(6, .inl (1 : Int32)), (5, .inl (js H b)), (0, .inr (.inr (some 91))), (1, .inl (nI o)), (2, .inl (nI b)), (3, .inl (nI p)), (4, .inl al)], [.inl (1 : Int32)], H)) (C := []) rfl trivial ?_
                  exact mw_of (fun _ => mu_ret rfl trivial ⟨_, _, rfl, rfl, (Or.inr (Or.inr (Or.inr (Or.inr (Or.inl ⟨by omega, h8, hA20, rfl⟩)))))⟩)
                · -- 127: not (nI o) = (17 : Int32)
                  have nh36 : ¬ o = 17 := fun z => h36 (show nI o = nI 17 from (nI_eq (by omega) (by omega)).mpr z)
                  refine mw_go mu_g194 (k := 2) (f1 := (130, [(6, .inl (1 : Int32)), (5, .inl (js H b)), (0, .inr (.inr (some 91))), (1, .inl (nI o)), (2, .inl (nI b)), (3, .inl (nI p)), (4, .inl al)], [.inl (30 : Int32), .inl (nI o)], H)) (C := []) rfl trivial ?_
                  refine mw_if (P := (nI o) = (30 : Int32)) (a := 133) (b := 144) (fun _ => rfl) trivial (fun h38 => ?_) (fun h38 => ?_)
                  · -- 133: (nI o) = (30 : Int32)
                    have nh38 : o = 30 := (nI_eq (by omega) (by omega)).mp (show nI o = nI 30 from h38)
                    refine mw_go mu_g194 (k := 1) (f1 := (135, [(6, .inl (1 : Int32)), (5, .inl (js H b)), (0, .inr (.inr (some 91))), (1, .inl (nI o)), (2, .inl (nI b)), (3, .inl (nI p)), (4, .inl al)], [.inl (1 : Int32)], H)) (C := []) rfl trivial ?_
                    refine mw_if (P := (1 : Int32) = 0) (a := 142) (b := 138) (fun _ => rfl) trivial (fun h39 => absurd h39 (by decide)) (fun h39 => ?_)
                    refine mw_go mu_g194 (k := 2) (f1 := (143, [(6, .inl (1 : Int32)), (5, .inl (js H b)), (0, .inr (.inr (some 91))), (1, .inl (nI o)), (2, .inl (nI b)), (3, .inl (nI p)), (4, .inl al)], [.inl (1 : Int32)], H)) (C := []) rfl trivial ?_
                    exact mw_of (fun _ => mu_ret rfl trivial ⟨_, _, rfl, rfl, (Or.inr (Or.inr (Or.inr (Or.inr (Or.inl ⟨by omega, h8, hA20, rfl⟩)))))⟩)
                  · -- 144: not (nI o) = (30 : Int32)
                    have nh38 : ¬ o = 30 := fun z => h38 (show nI o = nI 30 from (nI_eq (by omega) (by omega)).mpr z)
                    refine mw_go mu_g194 (k := 2) (f1 := (147, [(6, .inl (1 : Int32)), (5, .inl (js H b)), (0, .inr (.inr (some 91))), (1, .inl (nI o)), (2, .inl (nI b)), (3, .inl (nI p)), (4, .inl al)], [.inl (32 : Int32), .inl (nI o)], H)) (C := []) rfl trivial ?_
                    refine mw_if (P := (nI o) = (32 : Int32)) (a := 156) (b := 150) (fun _ => rfl) trivial (fun h40 => ?_) (fun h40 => ?_)
                    · -- 156: (nI o) = (32 : Int32)
                      have nh40 : o = 32 := (nI_eq (by omega) (by omega)).mp (show nI o = nI 32 from h40)
                      refine mw_go mu_g194 (k := 1) (f1 := (158, [(6, .inl (1 : Int32)), (5, .inl (js H b)), (0, .inr (.inr (some 91))), (1, .inl (nI o)), (2, .inl (nI b)), (3, .inl (nI p)), (4, .inl al)], [.inl (1 : Int32)], H)) (C := []) rfl trivial ?_
                      refine mw_if (P := (1 : Int32) = 0) (a := 166) (b := 161) (fun _ => rfl) trivial (fun h41 => absurd h41 (by decide)) (fun h41 => ?_)
                      refine mw_go mu_g194 (k := 2) (f1 := (167, [(6, .inl (1 : Int32)), (5, .inl (js H b)), (0, .inr (.inr (some 91))), (1, .inl (nI o)), (2, .inl (nI b)), (3, .inl (nI p)), (4, .inl al)], [.inl (js H b)], H)) (C := []) rfl trivial ?_
                      exact mw_of (fun _ => mu_ret rfl trivial ⟨_, _, rfl, rfl, (Or.inr (Or.inr (Or.inr (Or.inr (Or.inr (Or.inl ⟨by omega, h8, hA20, rfl⟩))))))⟩)
                    · -- 150: not (nI o) = (32 : Int32)
                      have nh40 : ¬ o = 32 := fun z => h40 (show nI o = nI 32 from (nI_eq (by omega) (by omega)).mpr z)
                      refine mw_go mu_g194 (k := 2) (f1 := (153, [(6, .inl (1 : Int32)), (5, .inl (js H b)), (0, .inr (.inr (some 91))), (1, .inl (nI o)), (2, .inl (nI b)), (3, .inl (nI p)), (4, .inl al)], [.inl (33 : Int32), .inl (nI o)], H)) (C := []) rfl trivial ?_
                      refine mw_if (P := (nI o) = (33 : Int32)) (a := 156) (b := 168) (fun _ => rfl) trivial (fun h42 => ?_) (fun h42 => ?_)
                      · -- 156: (nI o) = (33 : Int32)
                        have nh42 : o = 33 := (nI_eq (by omega) (by omega)).mp (show nI o = nI 33 from h42)
                        refine mw_go mu_g194 (k := 1) (f1 := (158, [(6, .inl (1 : Int32)), (5, .inl (js H b)), (0, .inr (.inr (some 91))), (1, .inl (nI o)), (2, .inl (nI b)), (3, .inl (nI p)), (4, .inl al)], [.inl (1 : Int32)], H)) (C := []) rfl trivial ?_
                        refine mw_if (P := (1 : Int32) = 0) (a := 166) (b := 161) (fun _ => rfl) trivial (fun h43 => absurd h43 (by decide)) (fun h43 => ?_)
                        refine mw_go mu_g194 (k := 2) (f1 := (167, [(6, .inl (1 : Int32)), (5, .inl (js H b)), (0, .inr (.inr (some 91))), (1, .inl (nI o)), (2, .inl (nI b)), (3, .inl (nI p)), (4, .inl al)], [.inl (js H b)], H)) (C := []) rfl trivial ?_
                        exact mw_of (fun _ => mu_ret rfl trivial ⟨_, _, rfl, rfl, (Or.inr (Or.inr (Or.inr (Or.inr (Or.inr (Or.inl ⟨by omega, h8, hA20, rfl⟩))))))⟩)
                      · -- 168: not (nI o) = (33 : Int32)
                        have nh42 : ¬ o = 33 := fun z => h42 (show nI o = nI 33 from (nI_eq (by omega) (by omega)).mpr z)
                        refine mw_go mu_g194 (k := 1) (f1 := (170, [(6, .inl (1 : Int32)), (5, .inl (js H b)), (0, .inr (.inr (some 91))), (1, .inl (nI o)), (2, .inl (nI b)), (3, .inl (nI p)), (4, .inl al)], [.inl (1 : Int32)], H)) (C := []) rfl trivial ?_
                        refine mw_if (P := (1 : Int32) = 0) (a := 179) (b := 173) (fun _ => rfl) trivial (fun h44 => absurd h44 (by decide)) (fun h44 => ?_)
                        refine mw_go mu_g194 (k := 2) (f1 := (176, [(6, .inl (1 : Int32)), (5, .inl (js H b)), (0, .inr (.inr (some 91))), (1, .inl (nI o)), (2, .inl (nI b)), (3, .inl (nI p)), (4, .inl al)], [.inl (2 : Int32), .inl (js H b)], H)) (C := []) rfl trivial ?_
                        refine mw_if (P := (js H b) = (2 : Int32)) (a := 181) (b := 179) (fun _ => rfl) trivial (fun h45 => ?_) (fun h45 => ?_)
                        · -- 181: (js H b) = (2 : Int32)
                          refine mw_go mu_g194 (k := 2) (f1 := (184, [(6, .inl (1 : Int32)), (5, .inl (js H b)), (0, .inr (.inr (some 91))), (1, .inl (nI o)), (2, .inl (nI b)), (3, .inl (nI p)), (4, .inl al)], [.inl (22 : Int32), .inl (nI o)], H)) (C := []) rfl trivial ?_
                          refine mw_if (P := (nI o) < (22 : Int32)) (a := 191) (b := 187) (fun _ => rfl) trivial (fun h46 => ?_) (fun h46 => ?_)
                          · -- 191: (nI o) < (22 : Int32)
                            have nh46 : o < 22 := (nI_ltI (by omega) (by omega)).mp (show nI o < nI 22 from h46)
                            refine mw_go mu_g194 (k := 1) (f1 := (192, [(6, .inl (1 : Int32)), (5, .inl (js H b)), (0, .inr (.inr (some 91))), (1, .inl (nI o)), (2, .inl (nI b)), (3, .inl (nI p)), (4, .inl al)], [.inl (1 : Int32)], H)) (C := []) rfl trivial ?_
                            exact mw_of (fun _ => mu_ret rfl trivial ⟨_, _, rfl, rfl, (Or.inr (Or.inr (Or.inr (Or.inr (Or.inr (Or.inr ⟨by unfold tmd at htm; omega, fun q h1 h2 => (hA20 q h1 h2).trans h45, by rw [if_neg (by omega)]⟩))))))⟩)
                          · -- 187: not (nI o) < (22 : Int32)
                            have nh46 : ¬ o < 22 := fun z => h46 (show nI o < nI 22 from (nI_ltI (by omega) (by omega)).mpr z)
                            refine mw_go mu_g194 (k := 2) (f1 := (192, [(6, .inl (1 : Int32)), (5, .inl (js H b)), (0, .inr (.inr (some 91))), (1, .inl (nI o)), (2, .inl (nI b)), (3, .inl (nI p)), (4, .inl al)], [.inl (2 : Int32)], H)) (C := []) rfl trivial ?_
                            exact mw_of (fun _ => mu_ret rfl trivial ⟨_, _, rfl, rfl, (Or.inr (Or.inr (Or.inr (Or.inr (Or.inr (Or.inr ⟨by unfold tmd at htm; omega, fun q h1 h2 => (hA20 q h1 h2).trans h45, by rw [if_pos (by omega)]⟩))))))⟩)
                        · -- 179: not (js H b) = (2 : Int32)
                          refine mw_go mu_g194 (k := 1) (f1 := (180, [(6, .inl (1 : Int32)), (5, .inl (js H b)), (0, .inr (.inr (some 91))), (1, .inl (nI o)), (2, .inl (nI b)), (3, .inl (nI p)), (4, .inl al)], [.inl (0 : Int32)], H)) (C := []) rfl trivial ?_
                          exact mw_of (fun _ => mu_ret rfl trivial ⟨_, _, rfl, rfl, (Or.inl rfl)⟩)
    · -- 43: not (9 : Int32) < (nI o)
      have nh3 : ¬ 9 < o := fun z => h3 (show nI 9 < nI o from (nI_ltI (by omega) (by omega)).mpr z)
      refine mw_go mu_g194 (k := 3) (f1 := (46, [(5, .inl (js H b)), (0, .inr (.inr (some 91))), (1, .inl (nI o)), (2, .inl (nI b)), (3, .inl (nI p)), (4, .inl al)], [.inl (nI p), .inl (nI b), .inr (.inr (some 91))], H)) (C := []) rfl trivial ?_
      refine mw_cI (fun _ => rfl) (show mu_is H (some 91) 3 from (h.1.1.is rfl)) (jg_truths3 (d := d) h hbp) (fun x47 H47 q47 => ?_)
      rcases q47 with ⟨rfl, rfl⟩ | ⟨rfl, rfl, hA47⟩
      · -- (0 : Int32)
        refine mw_if (P := (0 : Int32) = 0) (a := 52) (b := 54) (fun _ => rfl) trivial (fun h48 => ?_) (fun h48 => absurd (by decide) h48)
        refine mw_go mu_g194 (k := 1) (f1 := (53, [(5, .inl (js H b)), (0, .inr (.inr (some 91))), (1, .inl (nI o)), (2, .inl (nI b)), (3, .inl (nI p)), (4, .inl al)], [.inl (0 : Int32)], H)) (C := []) rfl trivial ?_
        exact mw_of (fun _ => mu_ret rfl trivial ⟨_, _, rfl, rfl, (Or.inl rfl)⟩)
      · -- (1 : Int32)
        refine mw_if (P := (1 : Int32) = 0) (a := 52) (b := 54) (fun _ => rfl) trivial (fun h49 => absurd h49 (by decide)) (fun h49 => ?_)
        refine mw_go mu_g194 (k := 4) (f1 := (58, [(5, .inl (js H b)), (0, .inr (.inr (some 91))), (1, .inl (nI o)), (2, .inl (nI b)), (3, .inl (nI p)), (4, .inl al)], [.inl (1 : Int32), .inl (nI p), .inl (nI b), .inr (.inr (some 91))], H)) (C := []) rfl trivial ?_
        refine mw_cI (fun _ => rfl) (show mu_is H (some 91) 3 from (h.1.1.is rfl)) (jg_all3 (d := d) h hbp) (fun x50 H50 q50 => ?_)
        rcases q50 with ⟨rfl, rfl, hB50⟩ | ⟨rfl, rfl, hA50⟩
        · -- (0 : Int32)
          refine mw_if (P := (0 : Int32) = 0) (a := 68) (b := 64) (fun _ => rfl) trivial (fun h51 => ?_) (fun h51 => absurd (by decide) h51)
          refine mw_go mu_g194 (k := 1) (f1 := (70, [(5, .inl (js H b)), (0, .inr (.inr (some 91))), (1, .inl (nI o)), (2, .inl (nI b)), (3, .inl (nI p)), (4, .inl al)], [.inl (9 : Int32)], H)) (C := []) rfl trivial ?_
          exact mw_of (fun _ => mu_ret rfl trivial ⟨_, _, rfl, rfl, (Or.inr (Or.inr (Or.inl ⟨⟨htm, by omega⟩, hA47, Or.inr ⟨rfl, (by obtain ⟨q, z1, z2, z3⟩ := hB50; exact ⟨q, z1, z2, (hA47 q z1 z2).resolve_left z3⟩)⟩⟩)))⟩)
        · -- (1 : Int32)
          refine mw_if (P := (1 : Int32) = 0) (a := 68) (b := 64) (fun _ => rfl) trivial (fun h52 => absurd h52 (by decide)) (fun h52 => ?_)
          refine mw_go mu_g194 (k := 2) (f1 := (70, [(5, .inl (js H b)), (0, .inr (.inr (some 91))), (1, .inl (nI o)), (2, .inl (nI b)), (3, .inl (nI p)), (4, .inl al)], [.inl (1 : Int32)], H)) (C := []) rfl trivial ?_
          exact mw_of (fun _ => mu_ret rfl trivial ⟨_, _, rfl, rfl, (Or.inr (Or.inr (Or.inl ⟨⟨htm, by omega⟩, hA47, Or.inl ⟨rfl, hA50⟩⟩)))⟩)
  · -- (1 : Int32)
    refine mw_if (P := (1 : Int32) = 0) (a := 37) (b := 15) (fun _ => rfl) trivial (fun h53 => absurd h53 (by decide)) (fun h53 => ?_)
    refine mw_go mu_g194 (k := 2) (f1 := (18, [(5, .inl (js H b)), (0, .inr (.inr (some 91))), (1, .inl (nI o)), (2, .inl (nI b)), (3, .inl (nI p)), (4, .inl al)], [.inl (2 : Int32), .inl al], H)) (C := []) rfl trivial ?_
    refine mw_if (P := al = (2 : Int32)) (a := 21) (b := 35) (fun _ => rfl) trivial (fun h54 => ?_) (fun h54 => ?_)
    · -- 21: al = (2 : Int32)
      refine mw_go mu_g194 (k := 3) (f1 := (24, [(5, .inl (js H b)), (0, .inr (.inr (some 91))), (1, .inl (nI o)), (2, .inl (nI b)), (3, .inl (nI p)), (4, .inl al)], [.inl (nI p), .inl (nI b), .inr (.inr (some 91))], H)) (C := []) rfl trivial ?_
      refine mw_cI (fun _ => rfl) (show mu_is H (some 91) 3 from (h.1.1.is rfl)) (jg_truths3 (d := d) h hbp) (fun x55 H55 q55 => ?_)
      rcases q55 with ⟨rfl, rfl⟩ | ⟨rfl, rfl, hA55⟩
      · -- (0 : Int32)
        refine mw_if (P := (0 : Int32) = 0) (a := 35) (b := 30) (fun _ => rfl) trivial (fun h56 => ?_) (fun h56 => absurd (by decide) h56)
        refine mw_go mu_g194 (k := 1) (f1 := (36, [(5, .inl (js H b)), (0, .inr (.inr (some 91))), (1, .inl (nI o)), (2, .inl (nI b)), (3, .inl (nI p)), (4, .inl al)], [.inl (0 : Int32)], H)) (C := []) rfl trivial ?_
        exact mw_of (fun _ => mu_ret rfl trivial ⟨_, _, rfl, rfl, (Or.inl rfl)⟩)
      · -- (1 : Int32)
        refine mw_if (P := (1 : Int32) = 0) (a := 35) (b := 30) (fun _ => rfl) trivial (fun h57 => absurd h57 (by decide)) (fun h57 => ?_)
        refine mw_go mu_g194 (k := 2) (f1 := (36, [(5, .inl (js H b)), (0, .inr (.inr (some 91))), (1, .inl (nI o)), (2, .inl (nI b)), (3, .inl (nI p)), (4, .inl al)], [.inl (9 : Int32)], H)) (C := []) rfl trivial ?_
        exact mw_of (fun _ => mu_ret rfl trivial ⟨_, _, rfl, rfl, (Or.inr (Or.inl ⟨htm, h54, rfl, hA55⟩))⟩)
    · -- 35: not al = (2 : Int32)
      refine mw_go mu_g194 (k := 1) (f1 := (36, [(5, .inl (js H b)), (0, .inr (.inr (some 91))), (1, .inl (nI o)), (2, .inl (nI b)), (3, .inl (nI p)), (4, .inl al)], [.inl (0 : Int32)], H)) (C := []) rfl trivial ?_
      exact mw_of (fun _ => mu_ret rfl trivial ⟨_, _, rfl, rfl, (Or.inl rfl)⟩)
theorem rc3v {X : Int32} (h : (X = 5) ∨ (X = 3 ∧ ∃ w v, w < (W 15).1 ∧ rch W r i = nI w ∧ (W 15).2 w 0 = nI v ∧ v < (W 3).1) ∨ (¬ X = 5 ∧ ¬ X = 3 ∧ ∃ e, e < (W 13).1 ∧ rch W r i = nI e)) (hx : X = 3) : ∃ w v, w < (W 15).1 ∧ rch W r i = nI w ∧ (W 15).2 w 0 = nI v ∧ v < (W 3).1 := by
  rcases h with z | ⟨-, z⟩ | z
  · exact absurd (z.symm.trans hx) (by decide)
  · exact z
  · exact absurd hx z.2.1
theorem jg_leaf3 {q : Nat} (h : dn m H) (hj : jz W (ak m H)) (hW : JW W) (hi : i < (W 11).1) (hq : q < (W 0).1) (hnm : oc W q = 2 ∨ oc W q = 3 → ∃ r, (W 0).2 q 1 = nI r ∧ sp W (im W i) 6 ≤ r ∧ r < sp W (im W i + 1) 6) (ho3 : oc W q ≤ 3) : mu_TI (mu_D (d + 3)) 193 [.inr (.inr (some 91)), .inl (nI q), .inl (nI i), .inl al] H (fun x H1 => H = H1 ∧ (x = 0 ∨ lok W (fun e => (ak m H 13).2 e 4) i al q x)) := by
  have b := hW.2.2.2.2.2.2
  have b0 := b 0 (by decide)
  have b3 := b 3 (by decide)
  have b9 := b 9 (by decide)
  have b13 := b 13 (by decide)
  have b15 := b 15 (by decide)
  obtain ⟨-, -, -, hkM, b1⟩ := hW.inst hi
  obtain ⟨ok1, ok2, ok3⟩ := okc_n hW.2.2.2.2.2.1.2 hq
  refine mu_meth (M := mu_m193) rfl rfl ?_
  refine mw_ht (mu_fn_of (show [0, 1, 2, 3].Nodup by decide)) ?_
  refine mw_go mu_g193 (k := 2) (f1 := (4, [(0, .inr (.inr (some 91))), (1, .inl (nI q)), (2, .inl (nI i)), (3, .inl al)], [.inr (.inr (mu_r H 91 3))], H)) (C := [mu_is H (some 91) 3]) rfl (show mu_is H (some 91) 3 from (h.1.1.is rfl)) ?_
  rw [(h.1.2.1)]
  refine mw_go mu_g193 (k := 1) (f1 := (7, [(0, .inr (.inr (some 91))), (1, .inl (nI q)), (2, .inl (nI i)), (3, .inl al)], [.inr (.inr (mu_r H m 0))], H)) (C := [mu_is H (some m) 6]) rfl (show mu_is H (some m) 6 from (show mu_is H (some m) 6 from gi_im h.1.1 h.2)) ?_
  rw [(show mu_r H m 0 = some (m + 1) from (gi_mr h.1.1 h.2 (j := 0) (by decide)).trans (congrArg some (by omega)))]
  refine mw_go mu_g193 (k := 2) (f1 := (9, [(0, .inr (.inr (some 91))), (1, .inl (nI q)), (2, .inl (nI i)), (3, .inl al)], [.inl (0 : Int32), .inl (nI q), .inr (.inr (some (m + 1)))], H)) (C := []) rfl trivial ?_
  refine mw_cIe (fun _ => rfl) (show mu_is H (some (m + 1)) 10 from ((h.1.1.w (md_w0 h.2)).1)) (dm.getr (d := (d + 1)) (dn.dm h) (rfl : ak m H = ak m H) (j := 0) (by decide) rfl (nI q) (c := 0) (by decide)) ?_
  rw [show (tget (ak m H 0) (nI q) 0) = (nI (oc W q)) from ((tget_nI (by omega)).trans (by rw [hj.1 0 (by decide) (by decide) (by decide)]; exact ok1))]
  refine mw_go mu_g193 (k := 2) (f1 := (16, [(4, .inl (nI (oc W q))), (0, .inr (.inr (some 91))), (1, .inl (nI q)), (2, .inl (nI i)), (3, .inl al)], [.inl (nI (oc W q))], H)) (C := []) rfl trivial ?_
  refine mw_if (P := (nI (oc W q)) = 0) (a := 25) (b := 19) (fun _ => rfl) trivial (fun h2 => ?_) (fun h2 => ?_)
  · -- 25: (nI (oc W q)) = 0
    have nh2 : (oc W q) = 0 := (nI_eq (by omega) (by omega)).mp (show nI (oc W q) = nI 0 from h2)
    refine mw_go mu_g193 (k := 1) (f1 := (27, [(4, .inl (nI (oc W q))), (0, .inr (.inr (some 91))), (1, .inl (nI q)), (2, .inl (nI i)), (3, .inl al)], [.inl (nI (oc W q))], H)) (C := []) rfl trivial ?_
    refine mw_if (P := (nI (oc W q)) = 0) (a := 30) (b := 34) (fun _ => rfl) trivial (fun _ => ?_) (fun h3 => absurd h2 h3)
    refine mw_go mu_g193 (k := 2) (f1 := (35, [(4, .inl (nI (oc W q))), (0, .inr (.inr (some 91))), (1, .inl (nI q)), (2, .inl (nI i)), (3, .inl al)], [.inl (1 : Int32)], H)) (C := []) rfl trivial ?_
    exact mw_of (fun _ => mu_ret rfl trivial ⟨_, _, rfl, rfl, (Or.inr (Or.inl ⟨by omega, rfl⟩))⟩)
  · -- 19: not (nI (oc W q)) = 0
    have nh2 : ¬ (oc W q) = 0 := fun z => h2 (show nI (oc W q) = nI 0 from (nI_eq (by omega) (by omega)).mpr z)
    refine mw_go mu_g193 (k := 2) (f1 := (22, [(4, .inl (nI (oc W q))), (0, .inr (.inr (some 91))), (1, .inl (nI q)), (2, .inl (nI i)), (3, .inl al)], [.inl (1 : Int32), .inl (nI (oc W q))], H)) (C := []) rfl trivial ?_
    refine mw_if (P := (nI (oc W q)) = (1 : Int32)) (a := 25) (b := 36) (fun _ => rfl) trivial (fun h4 => ?_) (fun h4 => ?_)
    · -- 25: (nI (oc W q)) = (1 : Int32)
      have nh4 : (oc W q) = 1 := (nI_eq (by omega) (by omega)).mp (show nI (oc W q) = nI 1 from h4)
      refine mw_go mu_g193 (k := 1) (f1 := (27, [(4, .inl (nI (oc W q))), (0, .inr (.inr (some 91))), (1, .inl (nI q)), (2, .inl (nI i)), (3, .inl al)], [.inl (nI (oc W q))], H)) (C := []) rfl trivial ?_
      refine mw_if (P := (nI (oc W q)) = 0) (a := 30) (b := 34) (fun _ => rfl) trivial (fun h5 => absurd h5 h2) (fun _ => ?_)
      refine mw_go mu_g193 (k := 1) (f1 := (35, [(4, .inl (nI (oc W q))), (0, .inr (.inr (some 91))), (1, .inl (nI q)), (2, .inl (nI i)), (3, .inl al)], [.inl (2 : Int32)], H)) (C := []) rfl trivial ?_
      exact mw_of (fun _ => mu_ret rfl trivial ⟨_, _, rfl, rfl, (Or.inr (Or.inr (Or.inl ⟨by omega, rfl⟩)))⟩)
    · -- 36: not (nI (oc W q)) = (1 : Int32)
      have nh4 : ¬ (oc W q) = 1 := fun z => h4 (show nI (oc W q) = nI 1 from (nI_eq (by omega) (by omega)).mpr z)
      refine mw_go mu_g193 (k := 2) (f1 := (40, [(4, .inl (nI (oc W q))), (0, .inr (.inr (some 91))), (1, .inl (nI q)), (2, .inl (nI i)), (3, .inl al)], [.inr (.inr (mu_r H 91 3))], H)) (C := [mu_is H (some 91) 3]) rfl (show mu_is H (some 91) 3 from (h.1.1.is rfl)) ?_
      rw [(h.1.2.1)]
      refine mw_go mu_g193 (k := 1) (f1 := (43, [(4, .inl (nI (oc W q))), (0, .inr (.inr (some 91))), (1, .inl (nI q)), (2, .inl (nI i)), (3, .inl al)], [.inr (.inr (mu_r H m 0))], H)) (C := [mu_is H (some m) 6]) rfl (show mu_is H (some m) 6 from (show mu_is H (some m) 6 from gi_im h.1.1 h.2)) ?_
      rw [(show mu_r H m 0 = some (m + 1) from (gi_mr h.1.1 h.2 (j := 0) (by decide)).trans (congrArg some (by omega)))]
      refine mw_go mu_g193 (k := 2) (f1 := (45, [(4, .inl (nI (oc W q))), (0, .inr (.inr (some 91))), (1, .inl (nI q)), (2, .inl (nI i)), (3, .inl al)], [.inl (1 : Int32), .inl (nI q), .inr (.inr (some (m + 1)))], H)) (C := []) rfl trivial ?_
      refine mw_cIe (fun _ => rfl) (show mu_is H (some (m + 1)) 10 from ((h.1.1.w (md_w0 h.2)).1)) (dm.getr (d := (d + 1)) (dn.dm h) (rfl : ak m H = ak m H) (j := 0) (by decide) rfl (nI q) (c := 1) (by decide)) ?_
      rw [show (tget (ak m H 0) (nI q) 1) = ((W 0).2 q 1) from ((tget_nI (by omega)).trans (by rw [hj.1 0 (by decide) (by decide) (by decide)]))]
      refine mw_go mu_g193 (k := 1) (f1 := (50, [(5, .inl ((W 0).2 q 1)), (4, .inl (nI (oc W q))), (0, .inr (.inr (some 91))), (1, .inl (nI q)), (2, .inl (nI i)), (3, .inl al)], [], H)) (C := []) rfl trivial ?_
      obtain ⟨r, er, hr1, hr2⟩ := hnm (by omega)
      have hr3 : r < 2147483648 := by obtain ⟨lr1, lr2, lr3⟩ := hW.le hkM (c := 6) (j := 9) (by decide) (by decide) rfl; omega
      have eoa : oa W q = r := by unfold oa; rw [er]; exact nI_clamp hr3
      have hkd := kn_kind hW hi hr1 hr2
      rw [er]
      refine mw_go mu_g193 (k := 2) (f1 := (54, [(5, .inl (nI r)), (4, .inl (nI (oc W q))), (0, .inr (.inr (some 91))), (1, .inl (nI q)), (2, .inl (nI i)), (3, .inl al)], [.inr (.inr (mu_r H 91 3))], H)) (C := [mu_is H (some 91) 3]) rfl (show mu_is H (some 91) 3 from (h.1.1.is rfl)) ?_
      rw [(h.1.2.1)]
      refine mw_go mu_g193 (k := 1) (f1 := (57, [(5, .inl (nI r)), (4, .inl (nI (oc W q))), (0, .inr (.inr (some 91))), (1, .inl (nI q)), (2, .inl (nI i)), (3, .inl al)], [.inr (.inr (mu_r H m 9))], H)) (C := [mu_is H (some m) 6]) rfl (show mu_is H (some m) 6 from (show mu_is H (some m) 6 from gi_im h.1.1 h.2)) ?_
      rw [(show mu_r H m 9 = some (m + 19) from (gi_mr h.1.1 h.2 (j := 9) (by decide)).trans (congrArg some (by omega)))]
      refine mw_go mu_g193 (k := 2) (f1 := (60, [(5, .inl (nI r)), (4, .inl (nI (oc W q))), (0, .inr (.inr (some 91))), (1, .inl (nI q)), (2, .inl (nI i)), (3, .inl al)], [.inl (2 : Int32), .inl (nI r), .inr (.inr (some (m + 19)))], H)) (C := []) rfl trivial ?_
      refine mw_cIe (fun _ => rfl) (show mu_is H (some (m + 19)) 10 from ((h.1.1.w (md_w9 h.2)).1)) (dm.getr (d := (d + 1)) (dn.dm h) (rfl : ak m H = ak m H) (j := 9) (by decide) rfl (nI r) (c := 2) (by decide)) ?_
      rw [show (tget (ak m H 9) (nI r) 2) = ((W 9).2 r 2) from ((tget_nI (by omega)).trans (by rw [hj.1 9 (by decide) (by decide) (by decide)]))]
      refine mw_go mu_g193 (k := 3) (f1 := (68, [(6, .inl ((W 9).2 r 2)), (5, .inl (nI r)), (4, .inl (nI (oc W q))), (0, .inr (.inr (some 91))), (1, .inl (nI q)), (2, .inl (nI i)), (3, .inl al)], [.inl (3 : Int32), .inl (nI (oc W q))], H)) (C := []) rfl trivial ?_
      refine mw_if (P := (nI (oc W q)) = (3 : Int32)) (a := 71) (b := 84) (fun _ => rfl) trivial (fun h8 => ?_) (fun h8 => ?_)
      · -- 71: (nI (oc W q)) = (3 : Int32)
        have nh8 : (oc W q) = 3 := (nI_eq (by omega) (by omega)).mp (show nI (oc W q) = nI 3 from h8)
        refine mw_go mu_g193 (k := 2) (f1 := (74, [(6, .inl ((W 9).2 r 2)), (5, .inl (nI r)), (4, .inl (nI (oc W q))), (0, .inr (.inr (some 91))), (1, .inl (nI q)), (2, .inl (nI i)), (3, .inl al)], [.inl (3 : Int32), .inl ((W 9).2 r 2)], H)) (C := []) rfl trivial ?_
        refine mw_if (P := ((W 9).2 r 2) = (3 : Int32)) (a := 77) (b := 82) (fun _ => rfl) trivial (fun h9 => ?_) (fun h9 => ?_)
        · -- 77: ((W 9).2 r 2) = (3 : Int32)
          refine mw_go mu_g193 (k := 2) (f1 := (79, [(6, .inl ((W 9).2 r 2)), (5, .inl (nI r)), (4, .inl (nI (oc W q))), (0, .inr (.inr (some 91))), (1, .inl (nI q)), (2, .inl (nI i)), (3, .inl al)], [.inl (1 : Int32), .inl al], H)) (C := []) rfl trivial ?_
          refine mw_if (P := al = (1 : Int32)) (a := 84) (b := 82) (fun _ => rfl) trivial (fun h10 => ?_) (fun h10 => ?_)
          · -- 84: al = (1 : Int32)
            refine mw_go mu_g193 (k := 2) (f1 := (87, [(6, .inl ((W 9).2 r 2)), (5, .inl (nI r)), (4, .inl (nI (oc W q))), (0, .inr (.inr (some 91))), (1, .inl (nI q)), (2, .inl (nI i)), (3, .inl al)], [.inl (5 : Int32), .inl ((W 9).2 r 2)], H)) (C := []) rfl trivial ?_
            refine mw_if (P := ((W 9).2 r 2) = (5 : Int32)) (a := 90) (b := 92) (fun _ => rfl) trivial (fun h11 => ?_) (fun h11 => ?_)
            · -- 90: ((W 9).2 r 2) = (5 : Int32)
              refine mw_go mu_g193 (k := 1) (f1 := (91, [(6, .inl ((W 9).2 r 2)), (5, .inl (nI r)), (4, .inl (nI (oc W q))), (0, .inr (.inr (some 91))), (1, .inl (nI q)), (2, .inl (nI i)), (3, .inl al)], [.inl (3 : Int32)], H)) (C := []) rfl trivial ?_
              exact mw_of (fun _ => mu_ret rfl trivial ⟨_, _, rfl, rfl, (Or.inr (Or.inr (Or.inr ⟨by omega, fun _ => by rw [eoa]; exact ⟨h9, h10⟩, by rw [eoa]; exact Or.inl ⟨h11, rfl⟩⟩)))⟩)
            · -- 92: not ((W 9).2 r 2) = (5 : Int32)
              refine mw_go mu_g193 (k := 2) (f1 := (96, [(6, .inl ((W 9).2 r 2)), (5, .inl (nI r)), (4, .inl (nI (oc W q))), (0, .inr (.inr (some 91))), (1, .inl (nI q)), (2, .inl (nI i)), (3, .inl al)], [.inr (.inr (mu_r H 91 3))], H)) (C := [mu_is H (some 91) 3]) rfl (show mu_is H (some 91) 3 from (h.1.1.is rfl)) ?_
              rw [(h.1.2.1)]
              refine mw_go mu_g193 (k := 2) (f1 := (99, [(6, .inl ((W 9).2 r 2)), (5, .inl (nI r)), (4, .inl (nI (oc W q))), (0, .inr (.inr (some 91))), (1, .inl (nI q)), (2, .inl (nI i)), (3, .inl al)], [.inl (nI i), .inl (nI r), .inr (.inr (some m))], H)) (C := []) rfl trivial ?_
              refine mw_cI (fun _ => rfl) (show mu_is H (some m) 6 from (show mu_is H (some m) 6 from gi_im h.1.1 h.2)) (dm_reach3 (d := d) (W := W) (dn.dm h) hj hW hi hr1 hr2) (fun x12 H12 q12 => ?_)
              obtain ⟨rfl, rfl, hcs⟩ := q12
              refine mw_go mu_g193 (k := 3) (f1 := (107, [(7, .inl (rch W r i)), (6, .inl ((W 9).2 r 2)), (5, .inl (nI r)), (4, .inl (nI (oc W q))), (0, .inr (.inr (some 91))), (1, .inl (nI q)), (2, .inl (nI i)), (3, .inl al)], [.inl (3 : Int32), .inl ((W 9).2 r 2)], H)) (C := []) rfl trivial ?_
              refine mw_if (P := ((W 9).2 r 2) = (3 : Int32)) (a := 110) (b := 133) (fun _ => rfl) trivial (fun _ => ?_) (fun h13 => absurd h9 h13)
              obtain ⟨w, v, hw, ew, ev, hvb⟩ := rc3v hcs h9
              rw [ew]
              refine mw_go mu_g193 (k := 2) (f1 := (114, [(7, .inl (nI w)), (6, .inl ((W 9).2 r 2)), (5, .inl (nI r)), (4, .inl (nI (oc W q))), (0, .inr (.inr (some 91))), (1, .inl (nI q)), (2, .inl (nI i)), (3, .inl al)], [.inr (.inr (mu_r H 91 3))], H)) (C := [mu_is H (some 91) 3]) rfl (show mu_is H (some 91) 3 from (h.1.1.is rfl)) ?_
              rw [(h.1.2.1)]
              refine mw_go mu_g193 (k := 2) (f1 := (118, [(7, .inl (nI w)), (6, .inl ((W 9).2 r 2)), (5, .inl (nI r)), (4, .inl (nI (oc W q))), (0, .inr (.inr (some 91))), (1, .inl (nI q)), (2, .inl (nI i)), (3, .inl al)], [.inr (.inr (mu_r H 91 3)), .inr (.inr (some m))], H)) (C := [mu_is H (some 91) 3]) rfl (show mu_is H (some 91) 3 from (h.1.1.is rfl)) ?_
              rw [(h.1.2.1)]
              refine mw_go mu_g193 (k := 1) (f1 := (121, [(7, .inl (nI w)), (6, .inl ((W 9).2 r 2)), (5, .inl (nI r)), (4, .inl (nI (oc W q))), (0, .inr (.inr (some 91))), (1, .inl (nI q)), (2, .inl (nI i)), (3, .inl al)], [.inr (.inr (mu_r H m 15)), .inr (.inr (some m))], H)) (C := [mu_is H (some m) 6]) rfl (show mu_is H (some m) 6 from (show mu_is H (some m) 6 from gi_im h.1.1 h.2)) ?_
              rw [(show mu_r H m 15 = some (m + 31) from (gi_mr h.1.1 h.2 (j := 15) (by decide)).trans (congrArg some (by omega)))]
              refine mw_go mu_g193 (k := 2) (f1 := (124, [(7, .inl (nI w)), (6, .inl ((W 9).2 r 2)), (5, .inl (nI r)), (4, .inl (nI (oc W q))), (0, .inr (.inr (some 91))), (1, .inl (nI q)), (2, .inl (nI i)), (3, .inl al)], [.inl (0 : Int32), .inl (nI w), .inr (.inr (some (m + 31))), .inr (.inr (some m))], H)) (C := []) rfl trivial ?_
              refine mw_cIe (fun _ => rfl) (show mu_is H (some (m + 31)) 10 from ((h.1.1.w (md_w15 h.2)).1)) (dm.getr (d := (d + 1)) (dn.dm h) (rfl : ak m H = ak m H) (j := 15) (by decide) rfl (nI w) (c := 0) (by decide)) ?_
              rw [show (tget (ak m H 15) (nI w) 0) = (nI v) from ((tget_nI (by omega)).trans (by rw [hj.1 15 (by decide) (by decide) (by decide)]; exact ev))]
              refine mw_cIe (fun _ => rfl) (show mu_is H (some m) 6 from (show mu_is H (some m) 6 from gi_im h.1.1 h.2)) (md_sort3 (d := d) (v := v) h hj (by omega)) ?_
              refine mw_go mu_g193 (k := 1) (f1 := (146, [(7, .inl (nI w)), (6, .inl ((W 9).2 r 2)), (5, .inl (nI r)), (4, .inl (nI (oc W q))), (0, .inr (.inr (some 91))), (1, .inl (nI q)), (2, .inl (nI i)), (3, .inl al)], [.inl (vso W v)], H)) (C := []) rfl trivial ?_
              exact mw_of (fun _ => mu_ret rfl trivial ⟨_, _, rfl, rfl, (Or.inr (Or.inr (Or.inr ⟨by omega, fun _ => by rw [eoa]; exact ⟨h9, h10⟩, by rw [eoa]; exact Or.inr (Or.inl ⟨h9, w, v, hw, ew, ev, hvb, rfl⟩)⟩)))⟩)
          · -- 82: not al = (1 : Int32)
            refine mw_go mu_g193 (k := 1) (f1 := (83, [(6, .inl ((W 9).2 r 2)), (5, .inl (nI r)), (4, .inl (nI (oc W q))), (0, .inr (.inr (some 91))), (1, .inl (nI q)), (2, .inl (nI i)), (3, .inl al)], [.inl (0 : Int32)], H)) (C := []) rfl trivial ?_
            exact mw_of (fun _ => mu_ret rfl trivial ⟨_, _, rfl, rfl, (Or.inl rfl)⟩)
        · -- 82: not ((W 9).2 r 2) = (3 : Int32)
          refine mw_go mu_g193 (k := 1) (f1 := (83, [(6, .inl ((W 9).2 r 2)), (5, .inl (nI r)), (4, .inl (nI (oc W q))), (0, .inr (.inr (some 91))), (1, .inl (nI q)), (2, .inl (nI i)), (3, .inl al)], [.inl (0 : Int32)], H)) (C := []) rfl trivial ?_
          exact mw_of (fun _ => mu_ret rfl trivial ⟨_, _, rfl, rfl, (Or.inl rfl)⟩)
      · -- 84: not (nI (oc W q)) = (3 : Int32)
        have nh8 : ¬ (oc W q) = 3 := fun z => h8 (show nI (oc W q) = nI 3 from (nI_eq (by omega) (by omega)).mpr z)
        refine mw_go mu_g193 (k := 2) (f1 := (87, [(6, .inl ((W 9).2 r 2)), (5, .inl (nI r)), (4, .inl (nI (oc W q))), (0, .inr (.inr (some 91))), (1, .inl (nI q)), (2, .inl (nI i)), (3, .inl al)], [.inl (5 : Int32), .inl ((W 9).2 r 2)], H)) (C := []) rfl trivial ?_
        refine mw_if (P := ((W 9).2 r 2) = (5 : Int32)) (a := 90) (b := 92) (fun _ => rfl) trivial (fun h16 => ?_) (fun h16 => ?_)
        · -- 90: ((W 9).2 r 2) = (5 : Int32)
          refine mw_go mu_g193 (k := 1) (f1 := (91, [(6, .inl ((W 9).2 r 2)), (5, .inl (nI r)), (4, .inl (nI (oc W q))), (0, .inr (.inr (some 91))), (1, .inl (nI q)), (2, .inl (nI i)), (3, .inl al)], [.inl (3 : Int32)], H)) (C := []) rfl trivial ?_
          exact mw_of (fun _ => mu_ret rfl trivial ⟨_, _, rfl, rfl, (Or.inr (Or.inr (Or.inr ⟨by omega, fun z => absurd z (by omega), by rw [eoa]; exact Or.inl ⟨h16, rfl⟩⟩)))⟩)
        · -- 92: not ((W 9).2 r 2) = (5 : Int32)
          refine mw_go mu_g193 (k := 2) (f1 := (96, [(6, .inl ((W 9).2 r 2)), (5, .inl (nI r)), (4, .inl (nI (oc W q))), (0, .inr (.inr (some 91))), (1, .inl (nI q)), (2, .inl (nI i)), (3, .inl al)], [.inr (.inr (mu_r H 91 3))], H)) (C := [mu_is H (some 91) 3]) rfl (show mu_is H (some 91) 3 from (h.1.1.is rfl)) ?_
          rw [(h.1.2.1)]
          refine mw_go mu_g193 (k := 2) (f1 := (99, [(6, .inl ((W 9).2 r 2)), (5, .inl (nI r)), (4, .inl (nI (oc W q))), (0, .inr (.inr (some 91))), (1, .inl (nI q)), (2, .inl (nI i)), (3, .inl al)], [.inl (nI i), .inl (nI r), .inr (.inr (some m))], H)) (C := []) rfl trivial ?_
          refine mw_cI (fun _ => rfl) (show mu_is H (some m) 6 from (show mu_is H (some m) 6 from gi_im h.1.1 h.2)) (dm_reach3 (d := d) (W := W) (dn.dm h) hj hW hi hr1 hr2) (fun x17 H17 q17 => ?_)
          obtain ⟨rfl, rfl, hcs⟩ := q17
          refine mw_go mu_g193 (k := 3) (f1 := (107, [(7, .inl (rch W r i)), (6, .inl ((W 9).2 r 2)), (5, .inl (nI r)), (4, .inl (nI (oc W q))), (0, .inr (.inr (some 91))), (1, .inl (nI q)), (2, .inl (nI i)), (3, .inl al)], [.inl (3 : Int32), .inl ((W 9).2 r 2)], H)) (C := []) rfl trivial ?_
          refine mw_if (P := ((W 9).2 r 2) = (3 : Int32)) (a := 110) (b := 133) (fun _ => rfl) trivial (fun h18 => ?_) (fun h18 => ?_)
          · -- 110: ((W 9).2 r 2) = (3 : Int32)
            obtain ⟨w, v, hw, ew, ev, hvb⟩ := rc3v hcs h18
            rw [ew]
            refine mw_go mu_g193 (k := 2) (f1 := (114, [(7, .inl (nI w)), (6, .inl ((W 9).2 r 2)), (5, .inl (nI r)), (4, .inl (nI (oc W q))), (0, .inr (.inr (some 91))), (1, .inl (nI q)), (2, .inl (nI i)), (3, .inl al)], [.inr (.inr (mu_r H 91 3))], H)) (C := [mu_is H (some 91) 3]) rfl (show mu_is H (some 91) 3 from (h.1.1.is rfl)) ?_
            rw [(h.1.2.1)]
            refine mw_go mu_g193 (k := 2) (f1 := (118, [(7, .inl (nI w)), (6, .inl ((W 9).2 r 2)), (5, .inl (nI r)), (4, .inl (nI (oc W q))), (0, .inr (.inr (some 91))), (1, .inl (nI q)), (2, .inl (nI i)), (3, .inl al)], [.inr (.inr (mu_r H 91 3)), .inr (.inr (some m))], H)) (C := [mu_is H (some 91) 3]) rfl (show mu_is H (some 91) 3 from (h.1.1.is rfl)) ?_
            rw [(h.1.2.1)]
            refine mw_go mu_g193 (k := 1) (f1 := (121, [(7, .inl (nI w)), (6, .inl ((W 9).2 r 2)), (5, .inl (nI r)), (4, .inl (nI (oc W q))), (0, .inr (.inr (some 91))), (1, .inl (nI q)), (2, .inl (nI i)), (3, .inl al)], [.inr (.inr (mu_r H m 15)), .inr (.inr (some m))], H)) (C := [mu_is H (some m) 6]) rfl (show mu_is H (some m) 6 from (show mu_is H (some m) 6 from gi_im h.1.1 h.2)) ?_
            rw [(show mu_r H m 15 = some (m + 31) from (gi_mr h.1.1 h.2 (j := 15) (by decide)).trans (congrArg some (by omega)))]
            refine mw_go mu_g193 (k := 2) (f1 := (124, [(7, .inl (nI w)), (6, .inl ((W 9).2 r 2)), (5, .inl (nI r)), (4, .inl (nI (oc W q))), (0, .inr (.inr (some 91))), (1, .inl (nI q)), (2, .inl (nI i)), (3, .inl al)], [.inl (0 : Int32), .inl (nI w), .inr (.inr (some (m + 31))), .inr (.inr (some m))], H)) (C := []) rfl trivial ?_
            refine mw_cIe (fun _ => rfl) (show mu_is H (some (m + 31)) 10 from ((h.1.1.w (md_w15 h.2)).1)) (dm.getr (d := (d + 1)) (dn.dm h) (rfl : ak m H = ak m H) (j := 15) (by decide) rfl (nI w) (c := 0) (by decide)) ?_
            rw [show (tget (ak m H 15) (nI w) 0) = (nI v) from ((tget_nI (by omega)).trans (by rw [hj.1 15 (by decide) (by decide) (by decide)]; exact ev))]
            refine mw_cIe (fun _ => rfl) (show mu_is H (some m) 6 from (show mu_is H (some m) 6 from gi_im h.1.1 h.2)) (md_sort3 (d := d) (v := v) h hj (by omega)) ?_
            refine mw_go mu_g193 (k := 1) (f1 := (146, [(7, .inl (nI w)), (6, .inl ((W 9).2 r 2)), (5, .inl (nI r)), (4, .inl (nI (oc W q))), (0, .inr (.inr (some 91))), (1, .inl (nI q)), (2, .inl (nI i)), (3, .inl al)], [.inl (vso W v)], H)) (C := []) rfl trivial ?_
            exact mw_of (fun _ => mu_ret rfl trivial ⟨_, _, rfl, rfl, (Or.inr (Or.inr (Or.inr ⟨by omega, fun z => absurd z (by omega), by rw [eoa]; exact Or.inr (Or.inl ⟨h18, w, v, hw, ew, ev, hvb, rfl⟩)⟩)))⟩)
          · -- 133: not ((W 9).2 r 2) = (3 : Int32)
            have hk12 : (W 9).2 r 2 = 1 ∨ (W 9).2 r 2 = 2 := by rcases hkd with z | z | z | z; exact absurd z h16; exact absurd z h18; exact Or.inr z; exact Or.inl z
            obtain ⟨e0, he0, ee⟩ := rc1v hcs hk12
            rw [ee]
            refine mw_go mu_g193 (k := 2) (f1 := (137, [(7, .inl (nI e0)), (6, .inl ((W 9).2 r 2)), (5, .inl (nI r)), (4, .inl (nI (oc W q))), (0, .inr (.inr (some 91))), (1, .inl (nI q)), (2, .inl (nI i)), (3, .inl al)], [.inr (.inr (mu_r H 91 3))], H)) (C := [mu_is H (some 91) 3]) rfl (show mu_is H (some 91) 3 from (h.1.1.is rfl)) ?_
            rw [(h.1.2.1)]
            refine mw_go mu_g193 (k := 1) (f1 := (140, [(7, .inl (nI e0)), (6, .inl ((W 9).2 r 2)), (5, .inl (nI r)), (4, .inl (nI (oc W q))), (0, .inr (.inr (some 91))), (1, .inl (nI q)), (2, .inl (nI i)), (3, .inl al)], [.inr (.inr (mu_r H m 13))], H)) (C := [mu_is H (some m) 6]) rfl (show mu_is H (some m) 6 from (show mu_is H (some m) 6 from gi_im h.1.1 h.2)) ?_
            rw [(show mu_r H m 13 = some (m + 27) from (gi_mr h.1.1 h.2 (j := 13) (by decide)).trans (congrArg some (by omega)))]
            refine mw_go mu_g193 (k := 2) (f1 := (143, [(7, .inl (nI e0)), (6, .inl ((W 9).2 r 2)), (5, .inl (nI r)), (4, .inl (nI (oc W q))), (0, .inr (.inr (some 91))), (1, .inl (nI q)), (2, .inl (nI i)), (3, .inl al)], [.inl (4 : Int32), .inl (nI e0), .inr (.inr (some (m + 27)))], H)) (C := []) rfl trivial ?_
            refine mw_cIe (fun _ => rfl) (show mu_is H (some (m + 27)) 10 from ((h.1.1.w (md_w13 h.2)).1)) (dm.getr (d := (d + 1)) (dn.dm h) (rfl : ak m H = ak m H) (j := 13) (by decide) rfl (nI e0) (c := 4) (by decide)) ?_
            rw [show (tget (ak m H 13) (nI e0) 4) = ((ak m H 13).2 e0 4) from (tget_nI (by omega))]
            exact mw_of (fun _ => mu_ret rfl trivial ⟨_, _, rfl, rfl, (Or.inr (Or.inr (Or.inr ⟨by omega, fun z => absurd z (by omega), by rw [eoa]; exact Or.inr (Or.inr ⟨hk12, e0, he0, ee, rfl⟩)⟩)))⟩)
theorem plen_03 {o a : Nat} (ho : o ≤ 34) (ha : o = 30 ∨ o = 31 ∨ o = 33 ∨ o = 34 → 1 ≤ a) (h : plen o a = 0) : o ≤ 3 := by
  unfold plen at h
  split at h
  · assumption
  · split at h
    · omega
    · split at h
      · omega
      · split at h
        · have := ha (by omega); omega
        · split at h
          · have := ha (by omega); omega
          · split at h
            · have := ha (by omega); omega
            · omega
theorem plen_3 {o a : Nat} (h : 1 ≤ plen o a) : 3 < o := by
  apply Nat.lt_of_not_le
  intro z
  rw [plen_0 z] at h
  omega
theorem plen_2 {o a : Nat} (ha : o = 30 ∨ o = 31 ∨ o = 33 ∨ o = 34 → 1 ≤ a) : o = 31 ∨ o = 34 → 2 ≤ plen o a := by
  intro h
  have := ha (by omega)
  unfold plen
  rcases h with z | z <;> subst z
  · rw [if_neg (by omega), if_neg (by omega), if_neg (by omega), if_neg (by omega), if_pos rfl]; omega
  · rw [if_neg (by omega), if_neg (by omega), if_neg (by omega), if_neg (by omega), if_neg (by omega), if_pos rfl]; omega
theorem jg_sort3 {kd : Bool} (h : dn m H) (hj : jz W (ak m H)) (hW : JW W) (hi : i < (W 11).1) (hr : rg W (im W i) kd a (a + N)) (hN : (W 0).1 < jn H) : mu_TI (mu_D (d + 4)) 190 [.inr (.inr (some 91)), .inl (nI a), .inl (nI (a + N)), .inl (nI i), .inl al] H (fun x H1 => dn m H1 ∧ jq H H1 ∧ (x = 0 ∨ ∃ rs, SRT W (fun e => (ak m H 13).2 e 4) i al a rs N ∧ x = stk W rs a N 0)) := by
  have b := hW.2.2.2.2.2.2
  have b0 := b 0 (by decide)
  have b3 := b 3 (by decide)
  have b9 := b 9 (by decide)
  have b13 := b 13 (by decide)
  have b15 := b 15 (by decide)
  obtain ⟨-, -, -, hkM, b1⟩ := hW.inst hi
  have hjn := jn_le h.1.1
  have hab := hr.2.1
  refine mu_meth (M := mu_m190) rfl rfl ?_
  refine mw_ht (mu_fn_of (show [0, 1, 2, 3, 4].Nodup by decide)) ?_
  refine mw_go mu_g190 (k := 4) (f1 := (6, [(6, .inl (nI a)), (5, .inl (0 : Int32)), (0, .inr (.inr (some 91))), (1, .inl (nI a)), (2, .inl (nI (a + N))), (3, .inl (nI i)), (4, .inl al)], [], H)) (C := []) rfl trivial ?_
  show mu_W _ _ (6, [(6, .inl (nI (a + 0))), (5, .inl (nI (tpz W a 0))), (0, .inr (.inr (some 91))), (1, .inl (nI a)), (2, .inl (nI (a + N))), (3, .inl (nI i)), (4, .inl al)], [], H) _
  refine mw_sub (L' := [(6, .inl (nI (a + 0))), (5, .inl (nI (tpz W a 0))), (0, .inr (.inr (some 91))), (1, .inl (nI a)), (2, .inl (nI (a + N))), (3, .inl (nI i)), (4, .inl al)]) (by simp) ?_
  refine mw_down (α := Nat × mu_H) (fun zs => (6, [(6, .inl (nI (a + zs.1))), (5, .inl (nI (tpz W a zs.1))), (0, .inr (.inr (some 91))), (1, .inl (nI a)), (2, .inl (nI (a + N))), (3, .inl (nI i)), (4, .inl al)], [], zs.2)) (fun zs => N - zs.1) (fun zs => dn m zs.2 ∧ jq H zs.2 ∧ (zs.1 ≤ N) ∧ (∃ rs, SRT W (fun e => (ak m H 13).2 e 4) i al a rs zs.1 ∧ ∀ k, k < tpz W a zs.1 → js zs.2 k = stk W rs a zs.1 k)) (fun zs hza iha => ?_) (0, H) ⟨h, (jq.refl H), (show 0 ≤ N from (by omega)), (show ∃ rs, SRT W (fun e => (ak m H 13).2 e 4) i al a rs 0 ∧ ∀ k, k < tpz W a 0 → js H k = stk W rs a 0 k from ⟨fun _ => 0, fun q hq => absurd hq (Nat.not_lt_zero _), fun k hk => absurd hk (Nat.not_lt_zero _)⟩)⟩
  obtain ⟨n, Hsa⟩ := zs
  obtain ⟨ua, hta, hn, hS⟩ := hza
  have ua : dn m Hsa := ua
  have hta : jq H Hsa := hta
  have da : ak m Hsa = ak m H := hta.ak h.2
  have jla : jn Hsa = jn H := hta.len h.1.1
  have hn : n ≤ N := hn
  have hS : ∃ rs, SRT W (fun e => (ak m H 13).2 e 4) i al a rs n ∧ ∀ k, k < tpz W a n → js Hsa k = stk W rs a n k := hS
  show mu_W _ _ (6, [(6, .inl (nI (a + n))), (5, .inl (nI (tpz W a n))), (0, .inr (.inr (some 91))), (1, .inl (nI a)), (2, .inl (nI (a + N))), (3, .inl (nI i)), (4, .inl al)], [], Hsa) _
  obtain ⟨rs, hsr, hst⟩ := hS
  refine mw_go mu_g190 (k := 2) (f1 := (9, [(6, .inl (nI (a + n))), (5, .inl (nI (tpz W a n))), (0, .inr (.inr (some 91))), (1, .inl (nI a)), (2, .inl (nI (a + N))), (3, .inl (nI i)), (4, .inl al)], [.inl (nI (a + N)), .inl (nI (a + n))], Hsa)) (C := []) rfl trivial ?_
  refine mw_if (P := (nI (a + n)) < (nI (a + N))) (a := 12) (b := 122) (fun _ => rfl) trivial (fun h1 => ?_) (fun h1 => ?_)
  · -- 12: (nI (a + n)) < (nI (a + N))
    have nh1 : (a + n) < (a + N) := (nI_ltI (by omega) (by omega)).mp (show nI (a + n) < nI (a + N) from h1)
    obtain ⟨ok1, ok2, ok3⟩ := okc_n hW.2.2.2.2.2.1.2 (show a + n < (W 0).1 by omega)
    have hpl0 := (rg_n hr (n := n) (by omega)).1
    have htb := tpz_b W a n
    refine mw_go mu_g190 (k := 2) (f1 := (16, [(6, .inl (nI (a + n))), (5, .inl (nI (tpz W a n))), (0, .inr (.inr (some 91))), (1, .inl (nI a)), (2, .inl (nI (a + N))), (3, .inl (nI i)), (4, .inl al)], [.inr (.inr (mu_r Hsa 91 3))], Hsa)) (C := [mu_is Hsa (some 91) 3]) rfl (show mu_is Hsa (some 91) 3 from (ua.1.1.is rfl)) ?_
    rw [(ua.1.2.1)]
    refine mw_go mu_g190 (k := 1) (f1 := (19, [(6, .inl (nI (a + n))), (5, .inl (nI (tpz W a n))), (0, .inr (.inr (some 91))), (1, .inl (nI a)), (2, .inl (nI (a + N))), (3, .inl (nI i)), (4, .inl al)], [.inr (.inr (mu_r Hsa m 0))], Hsa)) (C := [mu_is Hsa (some m) 6]) rfl (show mu_is Hsa (some m) 6 from (show mu_is Hsa (some m) 6 from gi_im ua.1.1 ua.2)) ?_
    rw [(show mu_r Hsa m 0 = some (m + 1) from (gi_mr ua.1.1 ua.2 (j := 0) (by decide)).trans (congrArg some (by omega)))]
    refine mw_go mu_g190 (k := 2) (f1 := (22, [(6, .inl (nI (a + n))), (5, .inl (nI (tpz W a n))), (0, .inr (.inr (some 91))), (1, .inl (nI a)), (2, .inl (nI (a + N))), (3, .inl (nI i)), (4, .inl al)], [.inl (0 : Int32), .inl (nI (a + n)), .inr (.inr (some (m + 1)))], Hsa)) (C := []) rfl trivial ?_
    refine mw_cIe (fun _ => rfl) (show mu_is Hsa (some (m + 1)) 10 from ((ua.1.1.w (md_w0 ua.2)).1)) (dm.getr (d := (d + 2)) (dn.dm ua) da (j := 0) (by decide) rfl (nI (a + n)) (c := 0) (by decide)) ?_
    rw [show (tget (ak m H 0) (nI (a + n)) 0) = (nI (oc W (a + n))) from ((tget_nI (by omega)).trans (by rw [hj.1 0 (by decide) (by decide) (by decide)]; exact ok1))]
    refine mw_go mu_g190 (k := 3) (f1 := (31, [(7, .inl (nI (oc W (a + n)))), (6, .inl (nI (a + n))), (5, .inl (nI (tpz W a n))), (0, .inr (.inr (some 91))), (1, .inl (nI a)), (2, .inl (nI (a + N))), (3, .inl (nI i)), (4, .inl al)], [.inr (.inr (mu_r Hsa 91 3))], Hsa)) (C := [mu_is Hsa (some 91) 3]) rfl (show mu_is Hsa (some 91) 3 from (ua.1.1.is rfl)) ?_
    rw [(ua.1.2.1)]
    refine mw_go mu_g190 (k := 1) (f1 := (34, [(7, .inl (nI (oc W (a + n)))), (6, .inl (nI (a + n))), (5, .inl (nI (tpz W a n))), (0, .inr (.inr (some 91))), (1, .inl (nI a)), (2, .inl (nI (a + N))), (3, .inl (nI i)), (4, .inl al)], [.inr (.inr (mu_r Hsa m 0))], Hsa)) (C := [mu_is Hsa (some m) 6]) rfl (show mu_is Hsa (some m) 6 from (show mu_is Hsa (some m) 6 from gi_im ua.1.1 ua.2)) ?_
    rw [(show mu_r Hsa m 0 = some (m + 1) from (gi_mr ua.1.1 ua.2 (j := 0) (by decide)).trans (congrArg some (by omega)))]
    refine mw_go mu_g190 (k := 2) (f1 := (37, [(7, .inl (nI (oc W (a + n)))), (6, .inl (nI (a + n))), (5, .inl (nI (tpz W a n))), (0, .inr (.inr (some 91))), (1, .inl (nI a)), (2, .inl (nI (a + N))), (3, .inl (nI i)), (4, .inl al)], [.inl (1 : Int32), .inl (nI (a + n)), .inr (.inr (some (m + 1)))], Hsa)) (C := []) rfl trivial ?_
    refine mw_cIe (fun _ => rfl) (show mu_is Hsa (some (m + 1)) 10 from ((ua.1.1.w (md_w0 ua.2)).1)) (dm.getr (d := (d + 2)) (dn.dm ua) da (j := 0) (by decide) rfl (nI (a + n)) (c := 1) (by decide)) ?_
    rw [show (tget (ak m H 0) (nI (a + n)) 1) = ((W 0).2 (a + n) 1) from ((tget_nI (by omega)).trans (by rw [hj.1 0 (by decide) (by decide) (by decide)]))]
    refine mw_go mu_g190 (k := 3) (f1 := (46, [(8, .inl ((W 0).2 (a + n) 1)), (7, .inl (nI (oc W (a + n)))), (6, .inl (nI (a + n))), (5, .inl (nI (tpz W a n))), (0, .inr (.inr (some 91))), (1, .inl (nI a)), (2, .inl (nI (a + N))), (3, .inl (nI i)), (4, .inl al)], [.inl ((W 0).2 (a + n) 1), .inl (nI (oc W (a + n)))], Hsa)) (C := []) rfl trivial ?_
    refine mw_cIe (fun _ => rfl) trivial (pv_parts2 (d := (d + 2)) (o := oc W (a + n)) (a := oa W (a + n)) ok2 (fun z => (ok3 z).1) (fun z => (ok3 z).2.2)) ?_
    refine mw_go mu_g190 (k := 1) (f1 := (51, [(8, .inl ((W 0).2 (a + n) 1)), (7, .inl (nI (oc W (a + n)))), (6, .inl (nI (a + n))), (5, .inl (nI (tpz W a n))), (0, .inr (.inr (some 91))), (1, .inl (nI a)), (2, .inl (nI (a + N))), (3, .inl (nI i)), (4, .inl al)], [.inl (nI (tpz W a n)), .inl (nI (plen (oc W (a + n)) (oa W (a + n))))], Hsa)) (C := []) rfl trivial ?_
    refine mw_cIe (fun _ => rfl) trivial (mu_min_ok (d := (d + 2)) (nI (plen (oc W (a + n)) (oa W (a + n)))) (nI (tpz W a n))) ?_
    rw [show (mu_min (nI (plen (oc W (a + n)) (oa W (a + n)))) (nI (tpz W a n))) = nI (min (plen (oc W (a + n)) (oa W (a + n))) (tpz W a n)) from mu_min_n (a := plen (oc W (a + n)) (oa W (a + n))) (b := tpz W a n) (by omega) (by omega)]
    rw [show (nI (min (plen (oc W (a + n)) (oa W (a + n))) (tpz W a n))) = nI (plen (oc W (a + n)) (oa W (a + n))) from congrArg nI (Nat.min_eq_left hpl0)]
    refine mw_go mu_g190 (k := 2) (f1 := (58, [(9, .inl (nI (plen (oc W (a + n)) (oa W (a + n))))), (8, .inl ((W 0).2 (a + n) 1)), (7, .inl (nI (oc W (a + n)))), (6, .inl (nI (a + n))), (5, .inl (nI (tpz W a n))), (0, .inr (.inr (some 91))), (1, .inl (nI a)), (2, .inl (nI (a + N))), (3, .inl (nI i)), (4, .inl al)], [.inl (nI (plen (oc W (a + n)) (oa W (a + n))))], Hsa)) (C := []) rfl trivial ?_
    refine mw_if (P := (nI (plen (oc W (a + n)) (oa W (a + n)))) = 0) (a := 61) (b := 73) (fun _ => rfl) trivial (fun h6 => ?_) (fun h6 => ?_)
    · -- 61: (nI (plen (oc W (a + n)) (oa W (a + n)))) = 0
      have nh6 : (plen (oc W (a + n)) (oa W (a + n))) = 0 := (nI_eq (by omega) (by omega)).mp (show nI (plen (oc W (a + n)) (oa W (a + n))) = nI 0 from h6)
      refine mw_go mu_g190 (k := 4) (f1 := (67, [(9, .inl (nI (plen (oc W (a + n)) (oa W (a + n))))), (8, .inl ((W 0).2 (a + n) 1)), (7, .inl (nI (oc W (a + n)))), (6, .inl (nI (a + n))), (5, .inl (nI (tpz W a n))), (0, .inr (.inr (some 91))), (1, .inl (nI a)), (2, .inl (nI (a + N))), (3, .inl (nI i)), (4, .inl al)], [.inl al, .inl (nI i), .inl (nI (a + n)), .inr (.inr (some 91))], Hsa)) (C := []) rfl trivial ?_
      refine mw_cI (fun _ => rfl) (show mu_is Hsa (some 91) 3 from (ua.1.1.is rfl)) (jg_leaf3 (d := d) (W := W) (q := a + n) (al := al) ua (by rw [da]; exact hj) hW hi (by omega) (fun z => hr.2.2.2 _ (Nat.le_add_right _ _) (by omega) (nm_of hW (by omega) z)) (plen_03 (a := oa W (a + n)) ok2 (fun z => (ok3 z).2.1) (by omega))) (fun x7 H7 q7 => ?_)
      obtain ⟨rfl, hlk⟩ := q7
      refine mw_go mu_g190 (k := 3) (f1 := (92, [(10, .inl x7), (9, .inl (nI (plen (oc W (a + n)) (oa W (a + n))))), (8, .inl ((W 0).2 (a + n) 1)), (7, .inl (nI (oc W (a + n)))), (6, .inl (nI (a + n))), (5, .inl (nI (tpz W a n))), (0, .inr (.inr (some 91))), (1, .inl (nI a)), (2, .inl (nI (a + N))), (3, .inl (nI i)), (4, .inl al)], [.inl x7], Hsa)) (C := []) rfl trivial ?_
      refine mw_if (P := x7 = 0) (a := 95) (b := 97) (fun _ => rfl) trivial (fun h8 => ?_) (fun h8 => ?_)
      · -- 95: x7 = 0
        refine mw_go mu_g190 (k := 1) (f1 := (96, [(10, .inl x7), (9, .inl (nI (plen (oc W (a + n)) (oa W (a + n))))), (8, .inl ((W 0).2 (a + n) 1)), (7, .inl (nI (oc W (a + n)))), (6, .inl (nI (a + n))), (5, .inl (nI (tpz W a n))), (0, .inr (.inr (some 91))), (1, .inl (nI a)), (2, .inl (nI (a + N))), (3, .inl (nI i)), (4, .inl al)], [.inl (0 : Int32)], Hsa)) (C := []) rfl trivial ?_
        exact mw_of (fun _ => mu_ret rfl trivial ⟨_, Hsa, rfl, ua, hta, Or.inl rfl⟩)
      · -- 97: not x7 = 0
        refine mw_go mu_g190 (k := 3) (f1 := (102, [(10, .inl x7), (9, .inl (nI (plen (oc W (a + n)) (oa W (a + n))))), (8, .inl ((W 0).2 (a + n) 1)), (7, .inl (nI (oc W (a + n)))), (6, .inl (nI (a + n))), (5, .inl (nI (tpz W a n))), (0, .inr (.inr (some 91))), (1, .inl (nI a)), (2, .inl (nI (a + N))), (3, .inl (nI i)), (4, .inl al)], [.inl ((nI (tpz W a n)) - (nI (plen (oc W (a + n)) (oa W (a + n)))))], Hsa)) (C := []) rfl trivial ?_
        rw [(show ((nI (tpz W a n)) - (nI (plen (oc W (a + n)) (oa W (a + n))))) = (nI ((tpz W a n) - (plen (oc W (a + n)) (oa W (a + n))))) from (nI_sub (a := tpz W a n) (b := plen (oc W (a + n)) (oa W (a + n))) (by omega)))]
        refine mw_go mu_g190 (k := 3) (f1 := (108, [(5, .inl (nI ((tpz W a n) - (plen (oc W (a + n)) (oa W (a + n)))))), (10, .inl x7), (9, .inl (nI (plen (oc W (a + n)) (oa W (a + n))))), (8, .inl ((W 0).2 (a + n) 1)), (7, .inl (nI (oc W (a + n)))), (6, .inl (nI (a + n))), (0, .inr (.inr (some 91))), (1, .inl (nI a)), (2, .inl (nI (a + N))), (3, .inl (nI i)), (4, .inl al)], [.inr (.inr (mu_r Hsa 91 2))], Hsa)) (C := [mu_is Hsa (some 91) 3]) rfl (show mu_is Hsa (some 91) 3 from (ua.1.1.is rfl)) ?_
        refine mw_go mu_g190 (k := 2) (f1 := (112, [(5, .inl (nI ((tpz W a n) - (plen (oc W (a + n)) (oa W (a + n)))))), (10, .inl x7), (9, .inl (nI (plen (oc W (a + n)) (oa W (a + n))))), (8, .inl ((W 0).2 (a + n) 1)), (7, .inl (nI (oc W (a + n)))), (6, .inl (nI (a + n))), (0, .inr (.inr (some 91))), (1, .inl (nI a)), (2, .inl (nI (a + N))), (3, .inl (nI i)), (4, .inl al)], [.inl x7, .inl (nI ((tpz W a n) - (plen (oc W (a + n)) (oa W (a + n))))), .inr (.inr (mu_r Hsa 91 2))], Hsa)) (C := []) rfl trivial ?_
        refine mw_go mu_g190 (k := 1) (f1 := (113, [(5, .inl (nI ((tpz W a n) - (plen (oc W (a + n)) (oa W (a + n)))))), (10, .inl x7), (9, .inl (nI (plen (oc W (a + n)) (oa W (a + n))))), (8, .inl ((W 0).2 (a + n) 1)), (7, .inl (nI (oc W (a + n)))), (6, .inl (nI (a + n))), (0, .inr (.inr (some 91))), (1, .inl (nI a)), (2, .inl (nI (a + N))), (3, .inl (nI i)), (4, .inl al)], [], (mu_si Hsa (mu_p (mu_r Hsa 91 2)) (nI ((tpz W a n) - (plen (oc W (a + n)) (oa W (a + n))))).toNatClampNeg x7))) (C := [mu_is Hsa (mu_r Hsa 91 2) 100, vp_in (nI ((tpz W a n) - (plen (oc W (a + n)) (oa W (a + n))))) (mu_n Hsa (mu_p (mu_r Hsa 91 2)))]) rfl ⟨ua.1.1.o (p := 91) (j := 2) rfl, (show vp_in (nI ((tpz W a n) - (plen (oc W (a + n)) (oa W (a + n))))) (jn Hsa) from vp_in_nI (n := (tpz W a n) - (plen (oc W (a + n)) (oa W (a + n)))) (by rw [hta.len h.1.1]; omega) (by omega))⟩ ?_
        rw [(show (nI ((tpz W a n) - (plen (oc W (a + n)) (oa W (a + n))))).toNatClampNeg = (tpz W a n) - (plen (oc W (a + n)) (oa W (a + n))) from nI_clamp (by omega))]
        obtain ⟨u9, r9, y9⟩ := ua.store (k := (tpz W a n) - (plen (oc W (a + n)) (oa W (a + n)))) (x := x7)
        generalize (mu_si Hsa (mu_p (mu_r Hsa 91 2)) ((tpz W a n) - (plen (oc W (a + n)) (oa W (a + n)))) x7) = Q9 at u9 r9 y9 ⊢
        have ht9 : jq H Q9 := hta.trans r9
        have d9 : ak m Q9 = ak m H := ht9.ak h.2
        refine mw_go mu_g190 (k := 1) (f1 := (116, [(5, .inl ((nI ((tpz W a n) - (plen (oc W (a + n)) (oa W (a + n))))) + 1)), (10, .inl x7), (9, .inl (nI (plen (oc W (a + n)) (oa W (a + n))))), (8, .inl ((W 0).2 (a + n) 1)), (7, .inl (nI (oc W (a + n)))), (6, .inl (nI (a + n))), (0, .inr (.inr (some 91))), (1, .inl (nI a)), (2, .inl (nI (a + N))), (3, .inl (nI i)), (4, .inl al)], [], Q9)) (C := []) rfl trivial ?_
        rw [(show ((nI ((tpz W a n) - (plen (oc W (a + n)) (oa W (a + n))))) + 1) = (nI (((tpz W a n) - (plen (oc W (a + n)) (oa W (a + n)))) + 1)) from (nI_add ((tpz W a n) - (plen (oc W (a + n)) (oa W (a + n)))) 1))]
        refine mw_go mu_g190 (k := 1) (f1 := (119, [(6, .inl ((nI (a + n)) + 1)), (5, .inl (nI (((tpz W a n) - (plen (oc W (a + n)) (oa W (a + n)))) + 1))), (10, .inl x7), (9, .inl (nI (plen (oc W (a + n)) (oa W (a + n))))), (8, .inl ((W 0).2 (a + n) 1)), (7, .inl (nI (oc W (a + n)))), (0, .inr (.inr (some 91))), (1, .inl (nI a)), (2, .inl (nI (a + N))), (3, .inl (nI i)), (4, .inl al)], [], Q9)) (C := []) rfl trivial ?_
        rw [(show ((nI (a + n)) + 1) = (nI ((a + n) + 1)) from (nI_add (a + n) 1))]
        refine mw_go mu_g190 (k := 1) (f1 := (6, [(6, .inl (nI ((a + n) + 1))), (5, .inl (nI (((tpz W a n) - (plen (oc W (a + n)) (oa W (a + n)))) + 1))), (10, .inl x7), (9, .inl (nI (plen (oc W (a + n)) (oa W (a + n))))), (8, .inl ((W 0).2 (a + n) 1)), (7, .inl (nI (oc W (a + n)))), (0, .inr (.inr (some 91))), (1, .inl (nI a)), (2, .inl (nI (a + N))), (3, .inl (nI i)), (4, .inl al)], [], Q9)) (C := []) rfl trivial ?_
        show mu_W _ _ (6, [(6, .inl (nI (a + (n + 1)))), (5, .inl (nI (tpz W a (n + 1)))), (10, .inl x7), (9, .inl (nI (plen (oc W (a + n)) (oa W (a + n))))), (8, .inl ((W 0).2 (a + n) 1)), (7, .inl (nI (oc W (a + n)))), (0, .inr (.inr (some 91))), (1, .inl (nI a)), (2, .inl (nI (a + N))), (3, .inl (nI i)), (4, .inl al)], [], Q9) _
        exact mw_sub (by simp) (iha (n + 1, Q9) ⟨u9, ht9, (show (n + 1) ≤ N from (by omega)), (show ∃ rs, SRT W (fun e => (ak m H 13).2 e 4) i al a rs (n + 1) ∧ ∀ k, k < tpz W a (n + 1) → js Q9 k = stk W rs a (n + 1) k from ⟨_, SRT_step hsr h8 (fun _ => by have z := hlk.resolve_left h8; rw [show ak m Hsa = ak m H from da] at z; exact z) (fun z => absurd z (by omega)), stk_step hst hpl0 y9⟩)⟩ (by show N - (n + 1) < N - n; omega))
    · -- 73: not (nI (plen (oc W (a + n)) (oa W (a + n)))) = 0
      have nh6 : ¬ (plen (oc W (a + n)) (oa W (a + n))) = 0 := fun z => h6 (show nI (plen (oc W (a + n)) (oa W (a + n))) = nI 0 from (nI_eq (by omega) (by omega)).mpr z)
      refine mw_go mu_g190 (k := 5) (f1 := (81, [(9, .inl (nI (plen (oc W (a + n)) (oa W (a + n))))), (8, .inl ((W 0).2 (a + n) 1)), (7, .inl (nI (oc W (a + n)))), (6, .inl (nI (a + n))), (5, .inl (nI (tpz W a n))), (0, .inr (.inr (some 91))), (1, .inl (nI a)), (2, .inl (nI (a + N))), (3, .inl (nI i)), (4, .inl al)], [.inl ((nI (tpz W a n)) - (nI (plen (oc W (a + n)) (oa W (a + n))))), .inl (nI (oc W (a + n))), .inr (.inr (some 91))], Hsa)) (C := []) rfl trivial ?_
      rw [(show ((nI (tpz W a n)) - (nI (plen (oc W (a + n)) (oa W (a + n))))) = (nI ((tpz W a n) - (plen (oc W (a + n)) (oa W (a + n))))) from (nI_sub (a := tpz W a n) (b := plen (oc W (a + n)) (oa W (a + n))) (by omega)))]
      refine mw_go mu_g190 (k := 2) (f1 := (85, [(9, .inl (nI (plen (oc W (a + n)) (oa W (a + n))))), (8, .inl ((W 0).2 (a + n) 1)), (7, .inl (nI (oc W (a + n)))), (6, .inl (nI (a + n))), (5, .inl (nI (tpz W a n))), (0, .inr (.inr (some 91))), (1, .inl (nI a)), (2, .inl (nI (a + N))), (3, .inl (nI i)), (4, .inl al)], [.inl al, .inl (nI (plen (oc W (a + n)) (oa W (a + n)))), .inl (nI ((tpz W a n) - (plen (oc W (a + n)) (oa W (a + n))))), .inl (nI (oc W (a + n))), .inr (.inr (some 91))], Hsa)) (C := []) rfl trivial ?_
      refine mw_cI (fun _ => rfl) (show mu_is Hsa (some 91) 3 from (ua.1.1.is rfl)) (jg_joined3 (d := (d + 1)) (o := oc W (a + n)) (b := tpz W a n - plen (oc W (a + n)) (oa W (a + n))) (p := plen (oc W (a + n)) (oa W (a + n))) (al := al) ua (by rw [hta.len h.1.1]; omega) ok2 (plen_3 (a := oa W (a + n)) (by omega)) (by omega) (plen_2 (fun z => (ok3 z).2.1))) (fun x10 H10 q10 => ?_)
      obtain ⟨rfl, hlk⟩ := q10
      refine mw_go mu_g190 (k := 2) (f1 := (92, [(10, .inl x10), (9, .inl (nI (plen (oc W (a + n)) (oa W (a + n))))), (8, .inl ((W 0).2 (a + n) 1)), (7, .inl (nI (oc W (a + n)))), (6, .inl (nI (a + n))), (5, .inl (nI (tpz W a n))), (0, .inr (.inr (some 91))), (1, .inl (nI a)), (2, .inl (nI (a + N))), (3, .inl (nI i)), (4, .inl al)], [.inl x10], Hsa)) (C := []) rfl trivial ?_
      refine mw_if (P := x10 = 0) (a := 95) (b := 97) (fun _ => rfl) trivial (fun h11 => ?_) (fun h11 => ?_)
      · -- 95: x10 = 0
        refine mw_go mu_g190 (k := 1) (f1 := (96, [(10, .inl x10), (9, .inl (nI (plen (oc W (a + n)) (oa W (a + n))))), (8, .inl ((W 0).2 (a + n) 1)), (7, .inl (nI (oc W (a + n)))), (6, .inl (nI (a + n))), (5, .inl (nI (tpz W a n))), (0, .inr (.inr (some 91))), (1, .inl (nI a)), (2, .inl (nI (a + N))), (3, .inl (nI i)), (4, .inl al)], [.inl (0 : Int32)], Hsa)) (C := []) rfl trivial ?_
        exact mw_of (fun _ => mu_ret rfl trivial ⟨_, Hsa, rfl, ua, hta, Or.inl rfl⟩)
      · -- 97: not x10 = 0
        refine mw_go mu_g190 (k := 3) (f1 := (102, [(10, .inl x10), (9, .inl (nI (plen (oc W (a + n)) (oa W (a + n))))), (8, .inl ((W 0).2 (a + n) 1)), (7, .inl (nI (oc W (a + n)))), (6, .inl (nI (a + n))), (5, .inl (nI (tpz W a n))), (0, .inr (.inr (some 91))), (1, .inl (nI a)), (2, .inl (nI (a + N))), (3, .inl (nI i)), (4, .inl al)], [.inl ((nI (tpz W a n)) - (nI (plen (oc W (a + n)) (oa W (a + n)))))], Hsa)) (C := []) rfl trivial ?_
        rw [(show ((nI (tpz W a n)) - (nI (plen (oc W (a + n)) (oa W (a + n))))) = (nI ((tpz W a n) - (plen (oc W (a + n)) (oa W (a + n))))) from (nI_sub (a := tpz W a n) (b := plen (oc W (a + n)) (oa W (a + n))) (by omega)))]
        refine mw_go mu_g190 (k := 3) (f1 := (108, [(5, .inl (nI ((tpz W a n) - (plen (oc W (a + n)) (oa W (a + n)))))), (10, .inl x10), (9, .inl (nI (plen (oc W (a + n)) (oa W (a + n))))), (8, .inl ((W 0).2 (a + n) 1)), (7, .inl (nI (oc W (a + n)))), (6, .inl (nI (a + n))), (0, .inr (.inr (some 91))), (1, .inl (nI a)), (2, .inl (nI (a + N))), (3, .inl (nI i)), (4, .inl al)], [.inr (.inr (mu_r Hsa 91 2))], Hsa)) (C := [mu_is Hsa (some 91) 3]) rfl (show mu_is Hsa (some 91) 3 from (ua.1.1.is rfl)) ?_
        refine mw_go mu_g190 (k := 2) (f1 := (112, [(5, .inl (nI ((tpz W a n) - (plen (oc W (a + n)) (oa W (a + n)))))), (10, .inl x10), (9, .inl (nI (plen (oc W (a + n)) (oa W (a + n))))), (8, .inl ((W 0).2 (a + n) 1)), (7, .inl (nI (oc W (a + n)))), (6, .inl (nI (a + n))), (0, .inr (.inr (some 91))), (1, .inl (nI a)), (2, .inl (nI (a + N))), (3, .inl (nI i)), (4, .inl al)], [.inl x10, .inl (nI ((tpz W a n) - (plen (oc W (a + n)) (oa W (a + n))))), .inr (.inr (mu_r Hsa 91 2))], Hsa)) (C := []) rfl trivial ?_
        refine mw_go mu_g190 (k := 1) (f1 := (113, [(5, .inl (nI ((tpz W a n) - (plen (oc W (a + n)) (oa W (a + n)))))), (10, .inl x10), (9, .inl (nI (plen (oc W (a + n)) (oa W (a + n))))), (8, .inl ((W 0).2 (a + n) 1)), (7, .inl (nI (oc W (a + n)))), (6, .inl (nI (a + n))), (0, .inr (.inr (some 91))), (1, .inl (nI a)), (2, .inl (nI (a + N))), (3, .inl (nI i)), (4, .inl al)], [], (mu_si Hsa (mu_p (mu_r Hsa 91 2)) (nI ((tpz W a n) - (plen (oc W (a + n)) (oa W (a + n))))).toNatClampNeg x10))) (C := [mu_is Hsa (mu_r Hsa 91 2) 100, vp_in (nI ((tpz W a n) - (plen (oc W (a + n)) (oa W (a + n))))) (mu_n Hsa (mu_p (mu_r Hsa 91 2)))]) rfl ⟨ua.1.1.o (p := 91) (j := 2) rfl, (show vp_in (nI ((tpz W a n) - (plen (oc W (a + n)) (oa W (a + n))))) (jn Hsa) from vp_in_nI (n := (tpz W a n) - (plen (oc W (a + n)) (oa W (a + n)))) (by rw [hta.len h.1.1]; omega) (by omega))⟩ ?_
        rw [(show (nI ((tpz W a n) - (plen (oc W (a + n)) (oa W (a + n))))).toNatClampNeg = (tpz W a n) - (plen (oc W (a + n)) (oa W (a + n))) from nI_clamp (by omega))]
        obtain ⟨u12, r12, y12⟩ := ua.store (k := (tpz W a n) - (plen (oc W (a + n)) (oa W (a + n)))) (x := x10)
        generalize (mu_si Hsa (mu_p (mu_r Hsa 91 2)) ((tpz W a n) - (plen (oc W (a + n)) (oa W (a + n)))) x10) = Q12 at u12 r12 y12 ⊢
        have ht12 : jq H Q12 := hta.trans r12
        have d12 : ak m Q12 = ak m H := ht12.ak h.2
        refine mw_go mu_g190 (k := 1) (f1 := (116, [(5, .inl ((nI ((tpz W a n) - (plen (oc W (a + n)) (oa W (a + n))))) + 1)), (10, .inl x10), (9, .inl (nI (plen (oc W (a + n)) (oa W (a + n))))), (8, .inl ((W 0).2 (a + n) 1)), (7, .inl (nI (oc W (a + n)))), (6, .inl (nI (a + n))), (0, .inr (.inr (some 91))), (1, .inl (nI a)), (2, .inl (nI (a + N))), (3, .inl (nI i)), (4, .inl al)], [], Q12)) (C := []) rfl trivial ?_
        rw [(show ((nI ((tpz W a n) - (plen (oc W (a + n)) (oa W (a + n))))) + 1) = (nI (((tpz W a n) - (plen (oc W (a + n)) (oa W (a + n)))) + 1)) from (nI_add ((tpz W a n) - (plen (oc W (a + n)) (oa W (a + n)))) 1))]
        refine mw_go mu_g190 (k := 1) (f1 := (119, [(6, .inl ((nI (a + n)) + 1)), (5, .inl (nI (((tpz W a n) - (plen (oc W (a + n)) (oa W (a + n)))) + 1))), (10, .inl x10), (9, .inl (nI (plen (oc W (a + n)) (oa W (a + n))))), (8, .inl ((W 0).2 (a + n) 1)), (7, .inl (nI (oc W (a + n)))), (0, .inr (.inr (some 91))), (1, .inl (nI a)), (2, .inl (nI (a + N))), (3, .inl (nI i)), (4, .inl al)], [], Q12)) (C := []) rfl trivial ?_
        rw [(show ((nI (a + n)) + 1) = (nI ((a + n) + 1)) from (nI_add (a + n) 1))]
        refine mw_go mu_g190 (k := 1) (f1 := (6, [(6, .inl (nI ((a + n) + 1))), (5, .inl (nI (((tpz W a n) - (plen (oc W (a + n)) (oa W (a + n)))) + 1))), (10, .inl x10), (9, .inl (nI (plen (oc W (a + n)) (oa W (a + n))))), (8, .inl ((W 0).2 (a + n) 1)), (7, .inl (nI (oc W (a + n)))), (0, .inr (.inr (some 91))), (1, .inl (nI a)), (2, .inl (nI (a + N))), (3, .inl (nI i)), (4, .inl al)], [], Q12)) (C := []) rfl trivial ?_
        show mu_W _ _ (6, [(6, .inl (nI (a + (n + 1)))), (5, .inl (nI (tpz W a (n + 1)))), (10, .inl x10), (9, .inl (nI (plen (oc W (a + n)) (oa W (a + n))))), (8, .inl ((W 0).2 (a + n) 1)), (7, .inl (nI (oc W (a + n)))), (0, .inr (.inr (some 91))), (1, .inl (nI a)), (2, .inl (nI (a + N))), (3, .inl (nI i)), (4, .inl al)], [], Q12) _
        exact mw_sub (by simp) (iha (n + 1, Q12) ⟨u12, ht12, (show (n + 1) ≤ N from (by omega)), (show ∃ rs, SRT W (fun e => (ak m H 13).2 e 4) i al a rs (n + 1) ∧ ∀ k, k < tpz W a (n + 1) → js Q12 k = stk W rs a (n + 1) k from ⟨_, SRT_step hsr h11 (fun z => absurd z nh6) (fun z => jok_eq (hlk.resolve_left h11) (by omega) (fun q h1 h2 => (hst q (by omega)).symm)), stk_step hst hpl0 y12⟩)⟩ (by show N - (n + 1) < N - n; omega))
  · -- 122: not (nI (a + n)) < (nI (a + N))
    have nh1 : ¬ (a + n) < (a + N) := fun z => h1 (show nI (a + n) < nI (a + N) from (nI_ltI (by omega) (by omega)).mpr z)
    refine mw_go mu_g190 (k := 2) (f1 := (126, [(6, .inl (nI (a + n))), (5, .inl (nI (tpz W a n))), (0, .inr (.inr (some 91))), (1, .inl (nI a)), (2, .inl (nI (a + N))), (3, .inl (nI i)), (4, .inl al)], [.inr (.inr (mu_r Hsa 91 2))], Hsa)) (C := [mu_is Hsa (some 91) 3]) rfl (show mu_is Hsa (some 91) 3 from (ua.1.1.is rfl)) ?_
    refine mw_go mu_g190 (k := 2) (f1 := (128, [(6, .inl (nI (a + n))), (5, .inl (nI (tpz W a n))), (0, .inr (.inr (some 91))), (1, .inl (nI a)), (2, .inl (nI (a + N))), (3, .inl (nI i)), (4, .inl al)], [.inl (mu_i Hsa (mu_p (mu_r Hsa 91 2)) (0 : Int32).toNatClampNeg)], Hsa)) (C := [mu_isr Hsa (mu_r Hsa 91 2) 100, vp_in (0 : Int32) (mu_n Hsa (mu_p (mu_r Hsa 91 2)))]) rfl (show (mu_isr Hsa (mu_r Hsa 91 2) 100) ∧ (vp_in (0 : Int32) (mu_n Hsa (mu_p (mu_r Hsa 91 2)))) from ⟨((ua.1.1.o (p := 91) (j := 2) rfl).r), (show vp_in (0 : Int32) (jn Hsa) from vp_in_nI (n := 0) (by rw [hta.len h.1.1]; omega) (by omega))⟩) ?_
    rw [(show mu_i Hsa (mu_p (mu_r Hsa 91 2)) (0 : Int32).toNatClampNeg = js Hsa 0 from congrArg (mu_i Hsa (mu_p (mu_r Hsa 91 2))) (show (0 : Int32).toNatClampNeg = 0 from by decide))]
    exact mw_of (fun _ => mu_ret rfl trivial ⟨_, Hsa, rfl, ua, hta, Or.inr ⟨rs, (by rw [show N = n by omega]; exact hsr), (by rw [show N = n by omega]; exact hst 0 (by have := rg_1 hr; rw [show a + N - a = n by omega] at this; omega))⟩⟩)
end SortsD
