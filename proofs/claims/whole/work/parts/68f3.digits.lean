/-! The reference: places of values as digits -/
theorem hmn_1 {c : Tre} (h : tyw c) (hn : tynu c) (h72 : ¬ tkd c = 72) : 1 ≤ hmn c := by
  unfold hmn
  by_cases e1 : tkd c = 39
  · rw [if_pos e1]; decide
  · rw [if_neg e1]
    by_cases e2 : tkd c = 71
    · rw [if_pos e2]
      have := hn e2
      omega
    · rw [if_neg e2]
      rcases h with z | z | z | z
      · exact absurd z.1 e1
      · exact z.2.1
      · exact absurd z.1 e2
      · exact absurd z.1 h72
/-- the digit of the VARIABLE w in s, n VARIABLES -/
def dgt (D : MD) : Nat → Nat → Nat → Nat
  | 0, _, _ => 0
  | n + 1, s, w => if w = n then s % hmn (typ D n) else dgt D n (s / hmn (typ D n)) w
/-- how many STATES n VARIABLES have -/
def prd (D : MD) : Nat → Nat
  | 0 => 1
  | n + 1 => prd D n * hmn (typ D n)
/-- the number of digits -/
def hor (D : MD) (g : Nat → Nat) : Nat → Nat
  | 0 => 0
  | n + 1 => hor D g n * hmn (typ D n) + g n
section Dgt
variable {D : MD} {f g : Nat → Nat}
theorem hor_cg : ∀ n, (∀ w, w < n → f w = g w) → hor D f n = hor D g n
  | 0, _ => rfl
  | n + 1, h => by
    show hor D f n * _ + f n = hor D g n * _ + g n
    rw [hor_cg n (fun w hw => h w (by omega)), h n (Nat.lt_succ_self _)]
theorem dgt_lt : ∀ n s w, w < n → (∀ v, v < n → 1 ≤ hmn (typ D v)) → dgt D n s w < hmn (typ D w)
  | 0, _, _, h, _ => absurd h (Nat.not_lt_zero _)
  | n + 1, s, w, h, h1 => by
    rw [dgt]
    by_cases e : w = n
    · subst e; rw [if_pos rfl]; exact Nat.mod_lt _ (h1 w (Nat.lt_succ_self _))
    · rw [if_neg e]; exact dgt_lt n _ w (by omega) (fun v hv => h1 v (by omega))
theorem hor_dgt : ∀ n s, s < prd D n → hor D (dgt D n s) n = s
  | 0, s, h => by have h : s < 1 := h; show 0 = s; omega
  | n + 1, s, h => by
    have h : s < prd D n * hmn (typ D n) := h
    have c : hor D (dgt D (n + 1) s) n = hor D (dgt D n (s / hmn (typ D n))) n := hor_cg n (fun w hw => by rw [dgt, if_neg (by omega)])
    show hor D (dgt D (n + 1) s) n * hmn (typ D n) + dgt D (n + 1) s n = s
    rw [c, hor_dgt n _ (Nat.div_lt_of_lt_mul (by rw [Nat.mul_comm]; exact h)), dgt, if_pos rfl, Nat.mul_comm]
    exact Nat.div_add_mod s _
theorem hor_bd : ∀ n, (∀ w, w < n → g w < hmn (typ D w)) → hor D g n < prd D n
  | 0, _ => Nat.one_pos
  | n + 1, h => by
    have i := hor_bd n (fun w hw => h w (by omega))
    have j := h n (Nat.lt_succ_self _)
    show hor D g n * hmn (typ D n) + g n < prd D n * hmn (typ D n)
    have : (hor D g n + 1) * hmn (typ D n) ≤ prd D n * hmn (typ D n) := Nat.mul_le_mul_right _ i
    rw [Nat.add_mul, Nat.one_mul] at this
    omega
theorem hor_lt {v : Nat} : ∀ n, v < n → (∀ w, w < v → f w = g w) → f v < g v → (∀ w, v < w → w < n → f w < hmn (typ D w)) → hor D f n < hor D g n
  | 0, h, _, _, _ => absurd h (Nat.not_lt_zero _)
  | n + 1, h, h1, h2, h3 => by
    show hor D f n * hmn (typ D n) + f n < hor D g n * hmn (typ D n) + g n
    by_cases e : v = n
    · subst e
      rw [hor_cg v h1]
      omega
    · have i := hor_lt n (by omega) h1 h2 (fun w a b => h3 w a (by omega))
      have j := h3 n (by omega) (Nat.lt_succ_self _)
      have : (hor D f n + 1) * hmn (typ D n) ≤ hor D g n * hmn (typ D n) := Nat.mul_le_mul_right _ i
      rw [Nat.add_mul, Nat.one_mul] at this
      omega
theorem prd_le : ∀ n, (∀ v, v < n → hmn (typ D v) ≤ 2 ^ clg (hmn (typ D v))) → prd D n ≤ 2 ^ bsm D n
  | 0, _ => Nat.le_refl _
  | n + 1, h => by
    show prd D n * hmn (typ D n) ≤ 2 ^ (bsm D n + clg (hmn (typ D n)))
    rw [Nat.pow_add]
    exact Nat.mul_le_mul (prd_le n (fun v hv => h v (by omega))) (h n (Nat.lt_succ_self _))
theorem prd_mono {n : Nat} : ∀ m, (∀ v, v < n + m → 1 ≤ hmn (typ D v)) → prd D n ≤ prd D (n + m)
  | 0, _ => Nat.le_refl _
  | m + 1, h => by
    have i := prd_mono (n := n) m (fun v hv => h v (by omega))
    have j := h (n + m) (by omega)
    show prd D n ≤ prd D (n + m) * hmn (typ D (n + m))
    exact Nat.le_trans i (Nat.le_mul_of_pos_right _ j)
end Dgt
theorem rp_decX0 {Hb H0 : mu_H} {D : MD} {d g p s : Nat} {x : Int32} (hb : mdb D) (hy : mdy D) (hmd : mdn D) : ∀ m r H, m ≤ (D.pr 1).length → r < 2147483648 → rms Hb D H → oar H D.G g 100 p (D.pr 1).length → dfr p H0 H → (∀ v, m ≤ v → v < (D.pr 1).length → mu_i H p v = nI (dgt D (D.pr 1).length s v)) → (∀ v, v < m → dgt D (D.pr 1).length s v = dgt D m r v) → mu_W (mu_D (d + 4)) mu_m427 (13, [(4, .inl (pI m)), (3, .inl (nI r)), (2, .inr (.inr (some p))), (1, .inl x), (0, .inr (.inr (some 169)))], [], H) (fun r => ∃ H1, r = (.inl none, H1) ∧ rms Hb D H1 ∧ (∀ v, v < (D.pr 1).length → mu_i H1 p v = nI (dgt D (D.pr 1).length s v)) ∧ dfr p H0 H1)
  | 0, r, H, hm_, hr31, hr, ho, hf, hd, hg => by
    show mu_W _ _ (13, [(4, .inl (-1 : Int32)), (3, .inl (nI r)), (2, .inr (.inr (some p))), (1, .inl x), (0, .inr (.inr (some 169)))], [], H) _
    refine mw_go mu_g427 (k := 1) (f1 := (15, [(4, .inl (-1 : Int32)), (3, .inl (nI r)), (2, .inr (.inr (some p))), (1, .inl x), (0, .inr (.inr (some 169)))], [.inl (-1 : Int32)], H)) (C := []) rfl trivial ?_
    refine mw_if (P := (-1 : Int32) < 0) (a := 61) (b := 18) (fun _ => rfl) trivial (fun h1 => ?_) (fun h1 => absurd (show (-1 : Int32) < 0 by decide) h1)
    exact mw_of (fun _ => mu_ret rfl trivial ⟨_, rfl, hr, (fun v hv => hd v (Nat.zero_le _) hv), hf⟩)
  | m + 1, r, H, hm_, hr31, hr, ho, hf, hd, hg => by
    show mu_W _ _ (13, [(4, .inl (nI m)), (3, .inl (nI r)), (2, .inr (.inr (some p))), (1, .inl x), (0, .inr (.inr (some 169)))], [], H) _
    have b5 := hb.2.2.1
    have hm : m < (D.pr 1).length := by omega
    have ty := hy m hm
    obtain ⟨om1, ⟨om0_1, om1_1⟩, ol1, on1, oc1, oj1⟩ := hr.mod
    obtain ⟨⟨pa2, pb2, pc2⟩, ⟨pd2, pe2, pf2⟩, pg2, ph2, pi2⟩ := hr.row (k := 1) (by decide)
    obtain ⟨q3, qr4, qn4⟩ := pf2 m hm
    obtain ⟨ra4, rb4, rc4, rd4⟩ := ar_at (i := m) pd2 (by decide) (by omega) (by omega)
    have re4 : mu_r H (D.loc 3) (nI m).toNatClampNeg = some q3 := by rw [rd4]; exact qr4
    have hq := hmI_n ty.1 (hmd m hm) ty.2 (qn4.s26 (c := typ D m))
    have em := rI_mod (a := r) (b := hmn (typ D m)) (by omega) (by omega)
    have ed := rI_div (a := r) (b := hmn (typ D m)) (by omega) (by omega)
    have hz : ¬ nI (hmn (typ D m)) = 0 := fun z => by have w9 := nI_is (j := 0) (x := (0 : Int32)) (by omega) z (by decide); omega
    have rl : r / hmn (typ D m) ≤ r := Nat.div_le_self _ _
    refine mw_go mu_g427 (k := 1) (f1 := (15, [(4, .inl (nI m)), (3, .inl (nI r)), (2, .inr (.inr (some p))), (1, .inl x), (0, .inr (.inr (some 169)))], [.inl (nI m)], H)) (C := []) rfl trivial ?_
    refine mw_if (P := (nI m) < 0) (a := 61) (b := 18) (fun _ => rfl) trivial (fun h1 => absurd h1 (nI_nn (by omega))) (fun h1 => ?_)
    refine mw_go mu_g427 (k := 6) (f1 := (27, [(4, .inl (nI m)), (3, .inl (nI r)), (2, .inr (.inr (some p))), (1, .inl x), (0, .inr (.inr (some 169)))], [.inr (.inr (mu_r H 169 18)), .inr (.inr (some 169)), .inl (nI r), .inl (nI m), .inr (.inr (some p))], H)) (C := [mu_is H (some 169) 1]) rfl (show mu_is H (some 169) 1 from hr.2.2.1.1) ?_
    refine mw_fr (f' := (27, [(4, .inl (nI m)), (3, .inl (nI r)), (2, .inr (.inr (some p))), (1, .inl x), (0, .inr (.inr (some 169)))], [.inr (.inr (some D.mp)), .inr (.inr (some 169)), .inl (nI r), .inl (nI m), .inr (.inr (some p))], H)) (by first | (rw [hr.2.2.1.2]; done) | (rw [hr.2.2.1.2]; rfl)) ?_
    refine mw_go mu_g427 (k := 1) (f1 := (30, [(4, .inl (nI m)), (3, .inl (nI r)), (2, .inr (.inr (some p))), (1, .inl x), (0, .inr (.inr (some 169)))], [.inr (.inr (mu_r H D.mp 4)), .inr (.inr (some 169)), .inl (nI r), .inl (nI m), .inr (.inr (some p))], H)) (C := [mu_is H (some D.mp) 16]) rfl (show mu_is H (some D.mp) 16 from om1) ?_
    refine mw_fr (f' := (30, [(4, .inl (nI m)), (3, .inl (nI r)), (2, .inr (.inr (some p))), (1, .inl x), (0, .inr (.inr (some 169)))], [.inr (.inr (some (D.loc 3))), .inr (.inr (some 169)), .inl (nI r), .inl (nI m), .inr (.inr (some p))], H)) (by first | (rw [(show mu_r H D.mp 4 = some (D.loc 3) from pa2)]; done) | (rw [(show mu_r H D.mp 4 = some (D.loc 3) from pa2)]; rfl)) ?_
    refine mw_go mu_g427 (k := 2) (f1 := (33, [(4, .inl (nI m)), (3, .inl (nI r)), (2, .inr (.inr (some p))), (1, .inl x), (0, .inr (.inr (some 169)))], [.inr (.inr (mu_r H (D.loc 3) (nI m).toNatClampNeg)), .inr (.inr (some 169)), .inl (nI r), .inl (nI m), .inr (.inr (some p))], H)) (C := [mu_is H (some (D.loc 3)) (mu_k H (D.loc 3)), 103 ≤ mu_k H (D.loc 3) ∧ mu_k H (D.loc 3) ≤ 110 ∧ mu_k H (D.loc 3) ≠ 108, vp_in (nI m) (mu_n H (D.loc 3))]) rfl (show (mu_is H (some (D.loc 3)) (mu_k H (D.loc 3))) ∧ (103 ≤ mu_k H (D.loc 3) ∧ mu_k H (D.loc 3) ≤ 110 ∧ mu_k H (D.loc 3) ≠ 108) ∧ (vp_in (nI m) (mu_n H (D.loc 3))) from ⟨ra4, rb4, rc4⟩) ?_
    refine mw_fr (f' := (33, [(4, .inl (nI m)), (3, .inl (nI r)), (2, .inr (.inr (some p))), (1, .inl x), (0, .inr (.inr (some 169)))], [.inr (.inr (some q3)), .inr (.inr (some 169)), .inl (nI r), .inl (nI m), .inr (.inr (some p))], H)) (by first | (rw [re4]; done) | (rw [re4]; rfl)) ?_
    refine mw_cIe (fun _ => rfl) (show mu_is H (some 169) 1 from hr.2.2.1.1) (rp_howMany (d := d) (c := typ D m) qn4 hr.2.1 ty.1) ?_
    refine mw_fr (f' := (36, [(4, .inl (nI m)), (3, .inl (nI r)), (2, .inr (.inr (some p))), (1, .inl x), (0, .inr (.inr (some 169)))], [.inl (nI (hmn (typ D m))), .inl (nI r), .inl (nI m), .inr (.inr (some p))], H)) (by rw [hq.1]) ?_
    refine mw_go mu_g427 (k := 1) (f1 := (37, [(4, .inl (nI m)), (3, .inl (nI r)), (2, .inr (.inr (some p))), (1, .inl x), (0, .inr (.inr (some 169)))], [.inl ((nI r) - (nI r) / (nI (hmn (typ D m))) * (nI (hmn (typ D m)))), .inl (nI m), .inr (.inr (some p))], H)) (C := [¬ (nI (hmn (typ D m))) = 0]) rfl (show ¬ (nI (hmn (typ D m))) = 0 from hz) ?_
    refine mw_fr (f' := (37, [(4, .inl (nI m)), (3, .inl (nI r)), (2, .inr (.inr (some p))), (1, .inl x), (0, .inr (.inr (some 169)))], [.inl (nI (r % hmn (typ D m))), .inl (nI m), .inr (.inr (some p))], H)) (by first | (rw [em]; done) | (rw [em]; rfl)) ?_
    refine mw_go mu_g427 (k := 1) (f1 := (38, [(4, .inl (nI m)), (3, .inl (nI r)), (2, .inr (.inr (some p))), (1, .inl x), (0, .inr (.inr (some 169)))], [], (mu_si H p (nI m).toNatClampNeg (nI (r % hmn (typ D m)))))) (C := [mu_is H (some p) 100, vp_in (nI m) (mu_n H p)]) rfl (show (mu_is H (some p) 100) ∧ (vp_in (nI m) (mu_n H p)) from ⟨⟨rfl, ho.2.1.2.1, ho.2.2.2.1⟩, (vp_in_nI (Nat.lt_of_lt_of_le hm ho.2.2.2.2.1) ho.2.2.2.2.2)⟩) ?_
    refine mw_fr (f' := (38, [(4, .inl (nI m)), (3, .inl (nI r)), (2, .inr (.inr (some p))), (1, .inl x), (0, .inr (.inr (some 169)))], [], (mu_si H p m (nI (r % hmn (typ D m)))))) (by rw [nI_clamp (show m < 2 ^ 31 by omega)]) ?_
    have n9 := gndl9 ho.2.1.1
    have hr2 := hr.siW (p := p) (j := m) (v := nI (r % hmn (typ D m))) ⟨ho.2.2.1, ho.2.1.2.2, n9⟩
    have ho2 : oar (mu_si H p m (nI (r % hmn (typ D m)))) D.G g 100 p (D.pr 1).length := ho
    have hf2 := hf.si (j := m) (x := nI (r % hmn (typ D m))) n9
    have hd2 : ∀ v, m ≤ v → v < (D.pr 1).length → mu_i (mu_si H p m (nI (r % hmn (typ D m)))) p v = nI (dgt D (D.pr 1).length s v) := fun v hv1 hv2 => by
      rw [mu_i_si]
      by_cases e : v = m
      · subst e; rw [if_pos ⟨rfl, rfl⟩, hg v (Nat.lt_succ_self _), dgt, if_pos rfl]
      · rw [if_neg (fun z => e z.2)]; exact hd v (by omega) hv2
    have hg2 : ∀ v, v < m → dgt D (D.pr 1).length s v = dgt D m (r / hmn (typ D m)) v := fun v hv => by rw [hg v (by omega), dgt, if_neg (by omega)]
    obtain ⟨K, eK⟩ : ∃ K, K = (mu_si H p m (nI (r % hmn (typ D m)))) := ⟨_, rfl⟩
    rw [← eK] at hr2 ho2 hf2 hd2 ⊢
    clear eK
    obtain ⟨om5, ⟨om0_5, om1_5⟩, ol5, on5, oc5, oj5⟩ := hr2.mod
    obtain ⟨⟨pa6, pb6, pc6⟩, ⟨pd6, pe6, pf6⟩, pg6, ph6, pi6⟩ := hr2.row (k := 1) (by decide)
    obtain ⟨q7, qr8, qn8⟩ := pf6 m hm
    obtain ⟨ra8, rb8, rc8, rd8⟩ := ar_at (i := m) pd6 (by decide) (by omega) (by omega)
    have re8 : mu_r K (D.loc 3) (nI m).toNatClampNeg = some q7 := by rw [rd8]; exact qr8
    refine mw_go mu_g427 (k := 4) (f1 := (44, [(4, .inl (nI m)), (3, .inl (nI r)), (2, .inr (.inr (some p))), (1, .inl x), (0, .inr (.inr (some 169)))], [.inr (.inr (mu_r K 169 18)), .inr (.inr (some 169)), .inl (nI r)], K)) (C := [mu_is K (some 169) 1]) rfl (show mu_is K (some 169) 1 from hr2.2.2.1.1) ?_
    refine mw_fr (f' := (44, [(4, .inl (nI m)), (3, .inl (nI r)), (2, .inr (.inr (some p))), (1, .inl x), (0, .inr (.inr (some 169)))], [.inr (.inr (some D.mp)), .inr (.inr (some 169)), .inl (nI r)], K)) (by first | (rw [hr2.2.2.1.2]; done) | (rw [hr2.2.2.1.2]; rfl)) ?_
    refine mw_go mu_g427 (k := 1) (f1 := (47, [(4, .inl (nI m)), (3, .inl (nI r)), (2, .inr (.inr (some p))), (1, .inl x), (0, .inr (.inr (some 169)))], [.inr (.inr (mu_r K D.mp 4)), .inr (.inr (some 169)), .inl (nI r)], K)) (C := [mu_is K (some D.mp) 16]) rfl (show mu_is K (some D.mp) 16 from om5) ?_
    refine mw_fr (f' := (47, [(4, .inl (nI m)), (3, .inl (nI r)), (2, .inr (.inr (some p))), (1, .inl x), (0, .inr (.inr (some 169)))], [.inr (.inr (some (D.loc 3))), .inr (.inr (some 169)), .inl (nI r)], K)) (by first | (rw [(show mu_r K D.mp 4 = some (D.loc 3) from pa6)]; done) | (rw [(show mu_r K D.mp 4 = some (D.loc 3) from pa6)]; rfl)) ?_
    refine mw_go mu_g427 (k := 2) (f1 := (50, [(4, .inl (nI m)), (3, .inl (nI r)), (2, .inr (.inr (some p))), (1, .inl x), (0, .inr (.inr (some 169)))], [.inr (.inr (mu_r K (D.loc 3) (nI m).toNatClampNeg)), .inr (.inr (some 169)), .inl (nI r)], K)) (C := [mu_is K (some (D.loc 3)) (mu_k K (D.loc 3)), 103 ≤ mu_k K (D.loc 3) ∧ mu_k K (D.loc 3) ≤ 110 ∧ mu_k K (D.loc 3) ≠ 108, vp_in (nI m) (mu_n K (D.loc 3))]) rfl (show (mu_is K (some (D.loc 3)) (mu_k K (D.loc 3))) ∧ (103 ≤ mu_k K (D.loc 3) ∧ mu_k K (D.loc 3) ≤ 110 ∧ mu_k K (D.loc 3) ≠ 108) ∧ (vp_in (nI m) (mu_n K (D.loc 3))) from ⟨ra8, rb8, rc8⟩) ?_
    refine mw_fr (f' := (50, [(4, .inl (nI m)), (3, .inl (nI r)), (2, .inr (.inr (some p))), (1, .inl x), (0, .inr (.inr (some 169)))], [.inr (.inr (some q7)), .inr (.inr (some 169)), .inl (nI r)], K)) (by first | (rw [re8]; done) | (rw [re8]; rfl)) ?_
    refine mw_cIe (fun _ => rfl) (show mu_is K (some 169) 1 from hr2.2.2.1.1) (rp_howMany (d := d) (c := typ D m) qn8 hr2.2.1 ty.1) ?_
    refine mw_fr (f' := (53, [(4, .inl (nI m)), (3, .inl (nI r)), (2, .inr (.inr (some p))), (1, .inl x), (0, .inr (.inr (some 169)))], [.inl (nI (hmn (typ D m))), .inl (nI r)], K)) (by rw [hq.1]) ?_
    refine mw_go mu_g427 (k := 1) (f1 := (54, [(4, .inl (nI m)), (3, .inl (nI r)), (2, .inr (.inr (some p))), (1, .inl x), (0, .inr (.inr (some 169)))], [.inl ((nI r) / (nI (hmn (typ D m))))], K)) (C := [¬ (nI (hmn (typ D m))) = 0]) rfl (show ¬ (nI (hmn (typ D m))) = 0 from hz) ?_
    refine mw_fr (f' := (54, [(4, .inl (nI m)), (3, .inl (nI r)), (2, .inr (.inr (some p))), (1, .inl x), (0, .inr (.inr (some 169)))], [.inl (nI (r / hmn (typ D m)))], K)) (by first | (rw [ed]; done) | (rw [ed]; rfl)) ?_
    refine mw_go mu_g427 (k := 2) (f1 := (58, [(4, .inl ((nI m) + (-1))), (3, .inl (nI (r / hmn (typ D m)))), (2, .inr (.inr (some p))), (1, .inl x), (0, .inr (.inr (some 169)))], [], K)) (C := []) rfl trivial ?_
    refine mw_fr (f' := (58, [(4, .inl (pI m)), (3, .inl (nI (r / hmn (typ D m)))), (2, .inr (.inr (some p))), (1, .inl x), (0, .inr (.inr (some 169)))], [], K)) (by first | (rw [(pI_dec m)]; done) | (rw [(pI_dec m)]; rfl)) ?_
    refine mw_go mu_g427 (k := 1) (f1 := (13, [(4, .inl (pI m)), (3, .inl (nI (r / hmn (typ D m)))), (2, .inr (.inr (some p))), (1, .inl x), (0, .inr (.inr (some 169)))], [], K)) (C := []) rfl trivial ?_
    refine mw_sub (L' := [(4, .inl (pI m)), (3, .inl (nI (r / hmn (typ D m)))), (2, .inr (.inr (some p))), (1, .inl x), (0, .inr (.inr (some 169)))]) (by intro x hx; simp only [List.mem_cons, List.not_mem_nil, or_false] at hx ⊢; rcases hx with rfl | rfl | rfl | rfl | rfl <;> simp) ?_
    exact rp_decX0 hb hy hmd m _ _ (by omega) (by omega) hr2 ho2 hf2 hd2 hg2
theorem rp_decodeX {Hb H : mu_H} {D : MD} {d g p s : Nat} (hb : mdb D) (hy : mdy D) (hmd : mdn D) (hs : s < 2147483648) (hr : rms Hb D H) (ho : oar H D.G g 100 p (D.pr 1).length) : mu_TV (mu_D (d + 5)) 427 [.inr (.inr (some 169)), .inl (nI s), .inr (.inr (some p))] H (fun H1 => rms Hb D H1 ∧ (∀ v, v < (D.pr 1).length → mu_i H1 p v = nI (dgt D (D.pr 1).length s v)) ∧ dfr p H H1) := by
  refine mu_meth (M := mu_m427) rfl rfl ?_
  refine mw_ht (mu_fn_of (show [0, 1, 2].Nodup by decide)) ?_
  obtain ⟨om1, ⟨om0_1, om1_1⟩, ol1, on1, oc1, oj1⟩ := hr.mod
  obtain ⟨⟨pa2, pb2, pc2⟩, ⟨pd2, pe2, pf2⟩, pg2, ph2, pi2⟩ := hr.row (k := 1) (by decide)
  refine mw_go mu_g427 (k := 4) (f1 := (6, [(3, .inl (nI s)), (0, .inr (.inr (some 169))), (1, .inl (nI s)), (2, .inr (.inr (some p)))], [.inr (.inr (mu_r H 169 18))], H)) (C := [mu_is H (some 169) 1]) rfl (show mu_is H (some 169) 1 from hr.2.2.1.1) ?_
  refine mw_fr (f' := (6, [(3, .inl (nI s)), (0, .inr (.inr (some 169))), (1, .inl (nI s)), (2, .inr (.inr (some p)))], [.inr (.inr (some D.mp))], H)) (by first | (rw [hr.2.2.1.2]; done) | (rw [hr.2.2.1.2]; rfl)) ?_
  refine mw_go mu_g427 (k := 1) (f1 := (9, [(3, .inl (nI s)), (0, .inr (.inr (some 169))), (1, .inl (nI s)), (2, .inr (.inr (some p)))], [.inl (mu_i H D.mp 5)], H)) (C := [mu_is H (some D.mp) 16]) rfl (show mu_is H (some D.mp) 16 from om1) ?_
  refine mw_fr (f' := (9, [(3, .inl (nI s)), (0, .inr (.inr (some 169))), (1, .inl (nI s)), (2, .inr (.inr (some p)))], [.inl (nI (D.pr 1).length)], H)) (by first | (rw [(show mu_i H D.mp 5 = nI (D.pr 1).length from pc2)]; done) | (rw [(show mu_i H D.mp 5 = nI (D.pr 1).length from pc2)]; rfl)) ?_
  refine mw_go mu_g427 (k := 2) (f1 := (11, [(3, .inl (nI s)), (0, .inr (.inr (some 169))), (1, .inl (nI s)), (2, .inr (.inr (some p)))], [.inl ((nI (D.pr 1).length) - (1 : Int32))], H)) (C := []) rfl trivial ?_
  refine mw_fr (f' := (11, [(3, .inl (nI s)), (0, .inr (.inr (some 169))), (1, .inl (nI s)), (2, .inr (.inr (some p)))], [.inl (pI (D.pr 1).length)], H)) (by first | (rw [(pI_sub (D.pr 1).length)]; done) | (rw [(pI_sub (D.pr 1).length)]; rfl)) ?_
  refine mw_go mu_g427 (k := 1) (f1 := (13, [(4, .inl (pI (D.pr 1).length)), (3, .inl (nI s)), (0, .inr (.inr (some 169))), (1, .inl (nI s)), (2, .inr (.inr (some p)))], [], H)) (C := []) rfl trivial ?_
  refine mw_sub (L' := [(4, .inl (pI (D.pr 1).length)), (3, .inl (nI s)), (2, .inr (.inr (some p))), (1, .inl (nI s)), (0, .inr (.inr (some 169)))]) (by intro x hx; simp only [List.mem_cons, List.not_mem_nil, or_false] at hx ⊢; rcases hx with rfl | rfl | rfl | rfl | rfl <;> simp) ?_
  exact rp_decX0 (g := g) hb hy hmd (D.pr 1).length s _ (Nat.le_refl _) hs hr ho dfr.rf (fun v h1 h2 => absurd h2 (by omega)) (fun v _ => rfl)
section Df
variable {tr tr' : Prop} {Hb H H1 : mu_H} {D : MD} {ph pt pk pa mm : Nat}
theorem vsta.df (h : vsta tr Hb D ph pt pk pa H) (hne : ph ≠ pt) (hr : rms Hb D H1) (hf : dfr pt H H1) (hg : hrg D H1 pt) : vsta tr' Hb D ph pt pk pa H1 := by
  obtain ⟨v1, ⟨a1, a2, a3, a4⟩, v3, v4, v5⟩ := h
  exact ⟨hr, ⟨hf.oar a1, hf.oar a2, hf.oar a3, hf.oar a4⟩, v3, hf.hrg v4 hne a1.2.1.2.1 (gndl9 a1.2.1.1), fun _ => hg⟩
theorem mwr.df {p : Nat} (h : mwr D mm H) (hk : mu_k H p = 100) (hf : dfr p H H1) : mwr D mm H1 := by
  obtain ⟨a1, a2⟩ := h
  have n1 : mm ≠ p := fun e => by have q := a1.2.2.2.1; rw [e, hk] at q; exact absurd q (by decide)
  have mr : ∀ v, mu_r H1 mm v = mu_r H mm v := fun v => hf.1.1.r (Or.inl a1.2.1.2.1) (fun z => z.elim (gndl9 a1.2.1.1) n1) v
  refine ⟨hf.oar a1, fun v hv => ?_⟩
  obtain ⟨z, z1, ⟨z2, z3, z4, z5⟩, z6⟩ := a2 v hv
  have nz : ¬ (z = 169 ∨ z = p) := fun e => by
    rcases e with e | e
    · exact gndl9 z3 e
    · have q := z2.2.2; rw [show mu_p (some z) = p from e, hk] at q; exact absurd q (by decide)
  exact ⟨z, (mr v).trans z1, ⟨hf.1.1.is z2 nz, z3, z4, z5⟩, by rw [hf.1.1.len (p := z) (Or.inl z2.2.1) nz]; exact z6⟩
end Df
