/-! THE MACHINE: a side is laid out, whichever way -/
section FillAny
variable {H : mu_H} {m d A W l k sl w P at0 : Nat} {C : Nat → Nat} {U V : Ud} {f : Nat → Nat} {x' : Nat → Int32}
def sdv (U : Ud) (k w at0 sz fi : Nat) (j : Nat) : Int32 := if w = 0 then (U.1 22).2 k 2 else (U.2.2.1 99 8).2 (fi + (at0 + j) / w % sz)
theorem ax22 {s : Ts} {x : Int32} (hk : k < (s 22).1) (hk2 : k < 2147483648) : (ax 22 s (nI k) 3 x 22).1 = (s 22).1 ∧ (ax 22 s (nI k) 3 x 22).2 k 3 = x ∧ ∀ r c, ¬ (r = k ∧ c = 3) → (ax 22 s (nI k) 3 x 22).2 r c = (s 22).2 r c := by
  refine ⟨ax_n, ax_hit hk (by decide) hk2, fun r c h => ?_⟩
  rw [ax_c (fun h1 h2 => fun h3 => h ⟨?_, h3⟩)]
  have := h2.trans (nI_clamp hk2)
  exact this
theorem fl_one {v : Int32} (hx : mx U A W l) (hW : 1 ≤ W) (h22 : k < (U.1 22).1) (hk2 : k < 2147483648) (hv : ∀ j, j < l → v = x' j) {w sz fi : Nat} : flq U (upT (upA (upA U 100 12 sl 0) 100 8 (sl * W) v) (ax 22 U.1 (nI k) 3 (-1))) W l k sl w sz fi x' := by
  obtain ⟨a1, a2, a3⟩ := ax22 (s := U.1) (x := -1) h22 hk2
  refine ⟨fun j hj => ?_, fun s j hs hj => ?_, ⟨a1, a3⟩, fun q hq hq2 => ?_, fun s j hs hj => ?_⟩
  · show (if (if sl = sl then (0 : Int32) else (U.2.2.1 100 12).2 sl) = 0 then (if sl * W = sl * W then v else (U.2.2.1 100 8).2 (sl * W)) else _) = _
    rw [if_pos (rfl : sl = sl), if_pos rfl, if_pos rfl]
    exact hv j hj
  · have n1 := slt_ne (s := s) (s0 := sl) (n := 1) hs hj hW
    have n2 := slt_ne (s := s) (s0 := sl) (k := 0) (n := 1) hs hW hW
    show (if (if s = sl then (0 : Int32) else (U.2.2.1 100 12).2 s) = 0 then (if s * W = sl * W then v else (U.2.2.1 100 8).2 (s * W)) else (if s * W + j = sl * W then v else (U.2.2.1 100 8).2 (s * W + j))) = cvl U W s j
    rw [if_neg hs, if_neg (show ¬ s * W = sl * W by omega), if_neg (show ¬ s * W + j = sl * W by omega)]
    rfl
  · exact absurd (hq.symm.trans a2) (nI_neg1 hq2)
  · have n1 := slt_ne (s := s) (s0 := sl) (n := 1) hs hj hW
    show (if s * W + j = sl * W then v else (U.2.2.1 100 8).2 (s * W + j)) = _
    rw [if_neg (by omega)]
theorem mc_fillL (h : um m H) (e : ud m H = U) (hS : spx m U P f) (hx : mx U A W l) (hk : k % 14 < P) (hk28 : k < 28) (hsl : (U.1 22).2 k 0 = nI sl) (hsA : sl < A) (hw : (U.1 22).2 k 1 = nI w) (hw2 : w * f (k % 14) ≤ 268435456) (hat : U.2.1 100 19 = nI at0) (hat2 : at0 ≤ 268435456) (h22 : (U.1 22).1 = 28) (hck : fck U W k sl w (f (k % 14)) (sm f 0 (k % 14))) :
    mu_TV (mu_D (d + 3)) 213 [.inr (.inr (some 100)), .inl (nI k)] H (fun H1 => um m H1 ∧ ur m C H H1 ∧ uq F213 U (ud m H1) ∧ flq U (ud m H1) W l k sl w (f (k % 14)) (sm f 0 (k % 14)) (sdv U k w at0 (f (k % 14)) (sm f 0 (k % 14)))) := by
  have hx0 := hx
  obtain ⟨hW, hl, hl1, hlW, hW2, hA8, c8, hA12, c12⟩ := hx0
  have hf2 := (hS.2.1 _ hk).2.2.2
  by_cases hw0 : w = 0
  · refine (mc_fill0 (C := C) (d := d + 1) h e hS hx hk hk28 hsl hsA hw hw2 hat hat2 hw0).imp (fun H1 z => ⟨z.1, z.2.1, ?_, ?_⟩)
    · rw [z.2.2]; exact (((uq.refl F213 U).A rfl).A rfl).ax rfl
    · rw [z.2.2]; exact fl_one hx (by omega) (by omega) (by omega) (fun j _ => (if_pos hw0).symm)
  · by_cases hn : l ≤ w - at0 % w
    · refine (mc_fillN (C := C) (d := d + 1) h e hS hx hk hk28 hsl hsA hw hw2 hat hat2 (by omega) hn).imp (fun H1 z => ⟨z.1, z.2.1, ?_, ?_⟩)
      · rw [z.2.2]; exact (((uq.refl F213 U).A rfl).A rfl).ax rfl
      · rw [z.2.2]; exact fl_one hx (by omega) (by omega) (by omega) (fun j hj => by
          unfold sdv
          rw [if_neg hw0, fw_in (by omega) (by omega)])
    · refine (mc_fillW (C := C) h e hS hx hk hk28 hsl hsA hw hw2 hat hat2 (by omega) (by omega) hck).imp (fun H1 z => ?_)
      obtain ⟨z1, z2, z3, z4, z5, z6, z7⟩ := z
      refine ⟨z1, z2, z3, fun j hj => ?_, fun s j hs hj => ?_, ?_, fun q hq hq2 => ⟨by omega, fun j hj => ?_⟩, fun s j hs hj => z6 _ (slt_ne hs hj hlW)⟩
      · unfold cvl sdv
        rw [z4, if_pos rfl, if_neg (by decide), if_neg hw0]
        exact z5 j hj
      · have n1 := slt_ne (s := s) (s0 := sl) (n := l) hs hj hlW
        have n2 := slt_ne (s := s) (s0 := sl) (k := 0) (n := l) hs (by omega) hlW
        unfold cvl
        rw [z4, if_neg hs, z6 _ n1, z6 (s * W) (by rwa [Nat.add_zero] at n2)]
      · rcases z7 with ⟨y, -⟩ | ⟨-, y⟩ | y
        · rw [y]; exact ⟨rfl, fun _ _ _ => rfl⟩
        · rw [y]; exact ⟨(ax22 (by omega) (by omega)).1, (ax22 (by omega) (by omega)).2.2⟩
        · rw [y]; exact ⟨(ax22 (by omega) (by omega)).1, (ax22 (by omega) (by omega)).2.2⟩
      · have h98 : (ud m H1).2.2.1 99 8 = U.2.2.1 99 8 := z3.a 99 8 rfl
        rw [h98]
        rcases z7 with ⟨y, y2⟩ | ⟨y0, y⟩ | y
        · rw [y] at hq
          rw [y2]
          exact (hck q hq hq2).2 j hj
        · rw [y, (ax22 (by omega) (by omega)).2.1] at hq
          have hwz := hw2
          have hwz1 : 1 ≤ w * f (k % 14) := Nat.mul_le_mul (show 1 ≤ w by omega) (show 1 ≤ f (k % 14) by omega)
          have hph : at0 % (w * f (k % 14)) < w * f (k % 14) := Nat.mod_lt _ hwz1
          have eq : at0 % (w * f (k % 14)) = q := (nI_eq (by omega) hq2).mp hq
          rw [z5 j (by omega), ph_eq (x := at0) (by omega) (by omega) eq.symm]
        · rw [y, (ax22 (by omega) (by omega)).2.1] at hq
          exact absurd hq.symm (nI_neg1 hq2)
end FillAny
