/-! SPQ of a SPEC from its height and its cost -/
/-- what k operators from n on cost -/
def wsz (R : Nat) (Y : Ts) (a : Nat) : Nat → Nat → Nat
  | 0, _ => 0
  | k + 1, n => wgt R (oc Y (a + n)) + wsz R Y a k (n + 1)
section SpecAsked
variable {Y : Ts} {a n N k R i0 o x : Nat} {es rs : Nat → Int32} {C : Nat → Nat} {lh : Nat → Nat} {ch : Nat → Bool}
theorem plen_le2 (h : tmd o ∨ (4 ≤ o ∧ o ≤ 9)) : plen o x ≤ 2 := by
  unfold tmd at h
  unfold plen
  split
  · omega
  · split
    · omega
    · split
      · omega
      · split
        · omega
        · split
          · omega
          · split
            · omega
            · omega
theorem spq_of (hr : rg Y (im Y i0) false a (a + N)) (hs : SRT Y es i0 2 a rs N) (hi : i0 < (Y 11).1) (hY : (Y 0).1 ≤ 14000) (hC : Cc Y) (hN : 1 ≤ N) (hle : ∀ n, n < N → plen (oc Y (a + n)) (oa Y (a + n)) = 0 → ¬ rs n = 9) (hroot : stk Y rs a N 0 = 1 ∨ stk Y rs a N 0 = 9) (hh : hgz Y lh ch a N 0 ≤ 120) (hc : wsz R Y a N 0 + 24 ≤ 1073741824) (hC26 : 4 * (N + 2) + 2 ≤ C 26) : SPQ Y es R C a N i0 0 := by
  have hP : PLN Y a N := fun n hn => (rg_n (n := n) hr (by omega)).1
  have r3 := hr.2.2.1
  rw [Nat.add_sub_cancel_left] at r3
  have t1 : 1 = tpz Y a N := kst_tp r3
  have hev : ∀ n, n < N → oc Y (a + n) = 31 ∨ oc Y (a + n) = 34 → ∃ c, plen (oc Y (a + n)) (oa Y (a + n)) = 2 * c := fun n _ y => ⟨oa Y (a + n), by rcases y with y | y; (rw [y]; exact plen_31); (rw [y]; exact plen_34)⟩
  refine ⟨rs, fun n => wsz R Y a (N - n) n, ⟨⟨hr, hs, hi⟩, ⟨hY, hC, hN, Nat.zero_le _⟩, hgz_count hP t1.symm hh (fun n hn y => ?_)⟩, hle, hroot, fun n hn => ?_, hc, hC26⟩
  · by_cases c : plen (oc Y (a + n)) (oa Y (a + n)) = 0
    · omega
    · exact plen_le2 (tm_op hP hev hs hn (by omega) (tmz_new.mpr (Or.inr y)))
  · show wsz R Y a (N - (n + 1)) (n + 1) + wgt R (oc Y (a + n)) ≤ wsz R Y a (N - n) n
    rw [show N - n = N - (n + 1) + 1 by omega]
    show _ ≤ wgt R (oc Y (a + n)) + wsz R Y a (N - (n + 1)) (n + 1)
    omega
end SpecAsked
