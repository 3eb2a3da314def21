/-! Lexer: is a row of the words this word -/
/-- PathProver$Lexer.isWord(I[BII)Z -/
abbrev mu_m124 : ev_M := (7, (some .boolean), [], ev_b124)
theorem mu_g124 : mu_good mu_m124 := mu_goodk ev_k124
/-- k bytes of f from a on are those of g from s on: 1, else 0 -/
def lx_eqb (f g : Nat → Int32) : Nat → Nat → Nat → Int32
  | _, _, 0 => 1
  | a, s, k + 1 => if f a = g s then lx_eqb f g (a + 1) (s + 1) k else 0
theorem lx_isWord_loop {run : Nat → List ev_V → List ev_C → Option ev_R} {q s e a : Nat} {o : Option Nat} {w fi : Int32} {H : mu_H} (hq : mu_is H (some q) 4) (hl7 : mu_isr H (mu_r H q 7) 101) (hl31 : mu_n H (mu_p (mu_r H q 7)) < 2 ^ 31) (ho : mu_isr H o 101) (ho31 : mu_n H (mu_p o) < 2 ^ 31) (he : e ≤ mu_n H (mu_p o)) (hfi : s < e → fi = nI a ∧ a + (e - s) ≤ mu_n H (mu_p (mu_r H q 7))) : ∀ k i, i + k = e → s ≤ i → mu_HT run mu_m124 (32, [(6, .inl (nI i)), (5, .inl fi), (0, .inr (.inr (some q))), (1, .inl w), (2, .inr (.inr o)), (3, .inl (nI s)), (4, .inl (nI e))], [], H) (fun r => ∃ x H1, r = (.inl (some (.inl x)), H1) ∧ x = lx_eqb (fun j => mu_i H (mu_p (mu_r H q 7)) j) (fun j => mu_i H (mu_p o) j) (a + i - s) i k ∧ H1 = H)
  | 0, i, hk, hs => by
    refine mu_go mu_g124 (k := 2) (f1 := (36, [(6, .inl (nI i)), (5, .inl fi), (0, .inr (.inr (some q))), (1, .inl w), (2, .inr (.inr o)), (3, .inl (nI s)), (4, .inl (nI e))], [.inl (nI e), .inl (nI i)], H)) (C := []) rfl trivial ?_
    refine mu_if (P := (nI i) < (nI e)) (a := 39) (b := 66) rfl trivial (fun h1 => ?_) (fun h1 => ?_)
    · -- 39: (nI i) < (nI e)
      exact absurd h1 (nI_nlt (by omega) (by omega))
    · -- 66: not (nI i) < (nI e)
      refine mu_go mu_g124 (k := 1) (f1 := (67, [(6, .inl (nI i)), (5, .inl fi), (0, .inr (.inr (some q))), (1, .inl w), (2, .inr (.inr o)), (3, .inl (nI s)), (4, .inl (nI e))], [.inl (1 : Int32)], H)) (C := []) rfl trivial ?_
      exact mu_ret rfl (Or.inr rfl) ⟨_, _, rfl, rfl, rfl⟩
  | k + 1, i, hk, hs => by
    obtain ⟨e1, e2⟩ := hfi (by omega)
    have hix : (fi + nI i) - nI s = nI (a + i - s) := by rw [e1, nI_add, pk_sub (by omega)]
    have hcmp : mu_i H (mu_p (mu_r H q 7)) ((fi + nI i) - nI s).toNatClampNeg = mu_i H (mu_p o) (nI i).toNatClampNeg ↔ mu_i H (mu_p (mu_r H q 7)) (a + i - s) = mu_i H (mu_p o) i := by rw [hix, nI_clamp (by omega), nI_clamp (by omega)]
    refine mu_go mu_g124 (k := 2) (f1 := (36, [(6, .inl (nI i)), (5, .inl fi), (0, .inr (.inr (some q))), (1, .inl w), (2, .inr (.inr o)), (3, .inl (nI s)), (4, .inl (nI e))], [.inl (nI e), .inl (nI i)], H)) (C := []) rfl trivial ?_
    refine mu_if (P := (nI i) < (nI e)) (a := 39) (b := 66) rfl trivial (fun h1 => ?_) (fun h1 => ?_)
    · -- 39: (nI i) < (nI e)
      refine mu_go mu_g124 (k := 11) (f1 := (55, [(6, .inl (nI i)), (5, .inl fi), (0, .inr (.inr (some q))), (1, .inl w), (2, .inr (.inr o)), (3, .inl (nI s)), (4, .inl (nI e))], [.inl (mu_i H (mu_p o) (nI i).toNatClampNeg), .inl (mu_i H (mu_p (mu_r H q 7)) ((fi + (nI i)) - (nI s)).toNatClampNeg)], H)) (C := [mu_is H (some q) 4, mu_isr H (mu_r H q 7) 101, vp_in ((fi + (nI i)) - (nI s)) (mu_n H (mu_p (mu_r H q 7))), mu_isr H o 101, vp_in (nI i) (mu_n H (mu_p o))]) rfl (show (mu_is H (some q) 4) ∧ (mu_isr H (mu_r H q 7) 101) ∧ (vp_in ((fi + (nI i)) - (nI s)) (mu_n H (mu_p (mu_r H q 7)))) ∧ (mu_isr H o 101) ∧ (vp_in (nI i) (mu_n H (mu_p o))) from ⟨hq, hl7, by rw [hix]; exact vp_in_nI (by omega) hl31, ho, vp_in_nI (by omega) ho31⟩) ?_
      refine mu_if (P := (mu_i H (mu_p (mu_r H q 7)) ((fi + (nI i)) - (nI s)).toNatClampNeg) = (mu_i H (mu_p o) (nI i).toNatClampNeg)) (a := 60) (b := 58) rfl trivial (fun h2 => ?_) (fun h2 => ?_)
      · -- 60: (mu_i H (mu_p (mu_r H q 7)) ((fi + (nI i)) - (nI s)).toNatClampNeg) = (mu_i H (mu_p o) (nI i).toNatClampNeg)
        refine mu_go mu_g124 (k := 2) (f1 := (32, [(6, .inl ((nI i) + 1)), (5, .inl fi), (0, .inr (.inr (some q))), (1, .inl w), (2, .inr (.inr o)), (3, .inl (nI s)), (4, .inl (nI e))], [], H)) (C := []) rfl trivial ?_
        rw [← nI_succ]; exact (lx_isWord_loop hq hl7 hl31 ho ho31 he hfi k (i + 1) (by omega) (by omega)).imp (fun r z => by obtain ⟨x, H1, e1, e2, e3⟩ := z; exact ⟨x, H1, e1, e2.trans (by rw [show a + (i + 1) - s = a + i - s + 1 by omega]; exact (if_pos (hcmp.mp h2)).symm), e3⟩)
      · -- 58: not (mu_i H (mu_p (mu_r H q 7)) ((fi + (nI i)) - (nI s)).toNatClampNeg) = (mu_i H (mu_p o) (nI i).toNatClampNeg)
        refine mu_go mu_g124 (k := 1) (f1 := (59, [(6, .inl (nI i)), (5, .inl fi), (0, .inr (.inr (some q))), (1, .inl w), (2, .inr (.inr o)), (3, .inl (nI s)), (4, .inl (nI e))], [.inl (0 : Int32)], H)) (C := []) rfl trivial ?_
        exact mu_ret rfl (Or.inl rfl) ⟨_, _, rfl, (if_neg (fun z => h2 (hcmp.mpr z))).symm, rfl⟩
    · -- 66: not (nI i) < (nI e)
      exact absurd (nI_lt (by omega) (by omega)) h1
theorem lx_isWord_ok {d q wq nw cw s e : Nat} {o : Option Nat} {w : Int32} {H : mu_H} (hq : mu_is H (some q) 4) (hw : some wq = mu_r H q 9) (hR : rw_ok H wq 4 nw cw) (hl7 : mu_isr H (mu_r H q 7) 101) (hl31 : mu_n H (mu_p (mu_r H q 7)) < 2 ^ 31) (ho : mu_isr H o 101) (ho31 : mu_n H (mu_p o) < 2 ^ 31) (hse : s ≤ e) (he : e ≤ mu_n H (mu_p o)) (hrow : s < e → rw_get H wq 4 nw w 1 = nI (e - s) → rw_get H wq 4 nw w 0 = nI (rw_get H wq 4 nw w 0).toNatClampNeg ∧ (rw_get H wq 4 nw w 0).toNatClampNeg + (e - s) ≤ mu_n H (mu_p (mu_r H q 7))) : mu_TI (mu_D (d + 2)) 124 [.inr (.inr (some q)), .inl w, .inr (.inr o), .inl (nI s), .inl (nI e)] H (fun x H1 => x = (if rw_get H wq 4 nw w 1 = nI (e - s) then lx_eqb (fun j => mu_i H (mu_p (mu_r H q 7)) j) (fun j => mu_i H (mu_p o) j) (rw_get H wq 4 nw w 0).toNatClampNeg s (e - s) else 0) ∧ H1 = H) := by
  refine mu_meth (M := mu_m124) rfl rfl ?_
  refine mu_go mu_g124 (k := 4) (f1 := (6, [(0, .inr (.inr (some q))), (1, .inl w), (2, .inr (.inr o)), (3, .inl (nI s)), (4, .inl (nI e))], [.inl (0 : Int32), .inl w, .inr (.inr (mu_r H q 9))], H)) (C := [mu_is H (some q) 4]) rfl (show mu_is H (some q) 4 from hq) ?_
  refine mu_cIe rfl (show mu_is H (mu_r H q 9) 10 from by rw [← hw]; exact hR.1) (hw ▸ rw_get_ok (d := d) hR w (j := 0) (by decide)) ?_
  refine mu_go mu_g124 (k := 5) (f1 := (17, [(5, .inl (rw_get H wq 4 nw w 0)), (0, .inr (.inr (some q))), (1, .inl w), (2, .inr (.inr o)), (3, .inl (nI s)), (4, .inl (nI e))], [.inl (1 : Int32), .inl w, .inr (.inr (mu_r H q 9))], H)) (C := [mu_is H (some q) 4]) rfl (show mu_is H (some q) 4 from hq) ?_
  refine mu_cIe rfl (show mu_is H (mu_r H q 9) 10 from by rw [← hw]; exact hR.1) (hw ▸ rw_get_ok (d := d) hR w (j := 1) (by decide)) ?_
  refine mu_go mu_g124 (k := 3) (f1 := (24, [(5, .inl (rw_get H wq 4 nw w 0)), (0, .inr (.inr (some q))), (1, .inl w), (2, .inr (.inr o)), (3, .inl (nI s)), (4, .inl (nI e))], [.inl ((nI e) - (nI s)), .inl (rw_get H wq 4 nw w 1)], H)) (C := []) rfl trivial ?_
  refine mu_if (P := (rw_get H wq 4 nw w 1) = ((nI e) - (nI s))) (a := 29) (b := 27) rfl trivial (fun h3 => ?_) (fun h3 => ?_)
  · -- 29: (rw_get H wq 4 nw w 1) = ((nI e) - (nI s))
    refine mu_go mu_g124 (k := 2) (f1 := (32, [(6, .inl (nI s)), (5, .inl (rw_get H wq 4 nw w 0)), (0, .inr (.inr (some q))), (1, .inl w), (2, .inr (.inr o)), (3, .inl (nI s)), (4, .inl (nI e))], [], H)) (C := []) rfl trivial ?_
    exact (lx_isWord_loop (a := (rw_get H wq 4 nw w 0).toNatClampNeg) hq hl7 hl31 ho ho31 he (fun z => hrow z (h3.trans (pk_sub hse))) (e - s) s (by omega) (Nat.le_refl s)).imp (fun r z => by obtain ⟨x, H1, e1, e2, e3⟩ := z; exact ⟨x, H1, e1, e2.trans (by rw [Nat.add_sub_cancel]; exact (if_pos (h3.trans (pk_sub hse))).symm), e3⟩)
  · -- 27: not (rw_get H wq 4 nw w 1) = ((nI e) - (nI s))
    refine mu_go mu_g124 (k := 1) (f1 := (28, [(5, .inl (rw_get H wq 4 nw w 0)), (0, .inr (.inr (some q))), (1, .inl w), (2, .inr (.inr o)), (3, .inl (nI s)), (4, .inl (nI e))], [.inl (0 : Int32)], H)) (C := []) rfl trivial ?_
    exact mu_ret rfl (Or.inl rfl) ⟨_, _, rfl, (if_neg (fun z => h3 (z.trans (pk_sub hse).symm))).symm, rfl⟩
