/-! THE RELATION: a wide row more -/
section WidePut
variable {U V : Ud} {P nw a n i r s t : Nat} {Y : Ts} {f od wa wn wi : Nat → Nat} {wk : Nat → Bool} {bb : Bool} {es : Nat → Int32} {x3 x4 v : Int32} {t15 tt : Tb} {b c d e : Int32}
theorem tw5_eq (h : tt.1 < 2147483647) : tset 5 (tput 5 tt b c d e) (nI tt.1) 4 v = (tt.1 + 1, fun i k => if i = tt.1 ∧ k = 4 then v else if i = tt.1 then (if k < 5 then rw_col b c d e k else 0) else tt.2 i k) := by
  unfold tset
  rw [if_neg (nI_pos (by omega)), nI_clamp (by omega), if_pos ⟨by show tt.1 < tt.1 + 1; omega, by decide⟩]
  rfl
theorem wide_rows (hn : (U.1 25).1 = nw) (hnw : nw < 16777216) (h25 : V.1 25 = tset 5 (tput 5 (U.1 25) (nI a) (nI (a + n)) (nI i) x3) (nI nw) 4 x4) : (V.1 25).1 = nw + 1 ∧ (∀ q k, q < nw → (V.1 25).2 q k = (U.1 25).2 q k) ∧ (V.1 25).2 nw 0 = nI a ∧ (V.1 25).2 nw 1 = nI (a + n) ∧ (V.1 25).2 nw 2 = nI i ∧ (V.1 25).2 nw 3 = x3 ∧ (V.1 25).2 nw 4 = x4 := by
  have e25 : V.1 25 = (nw + 1, fun i' k => if i' = nw ∧ k = 4 then x4 else if i' = nw then (if k < 5 then rw_col (nI a) (nI (a + n)) (nI i) x3 k else 0) else (U.1 25).2 i' k) := by
    rw [h25, ← hn]
    exact tw5_eq (by omega)
  have enew : ∀ k, k < 4 → (V.1 25).2 nw k = rw_col (nI a) (nI (a + n)) (nI i) x3 k := fun k hk => by
    rw [e25]
    show (if nw = nw ∧ k = 4 then x4 else if nw = nw then (if k < 5 then rw_col (nI a) (nI (a + n)) (nI i) x3 k else 0) else (U.1 25).2 nw k) = _
    rw [if_neg (fun y => absurd y.2 (by omega)), if_pos rfl, if_pos (by omega)]
  refine ⟨by rw [e25], fun q k hq => ?_, enew 0 (by omega), enew 1 (by omega), enew 2 (by omega), enew 3 (by omega), ?_⟩
  · rw [e25]
    show (if q = nw ∧ k = 4 then x4 else if q = nw then (if k < 5 then rw_col (nI a) (nI (a + n)) (nI i) x3 k else 0) else (U.1 25).2 q k) = _
    rw [if_neg (fun y => absurd y.1 (by omega)), if_neg (by omega)]
  · rw [e25]
    show (if nw = nw ∧ 4 = 4 then x4 else _) = _
    rw [if_pos ⟨rfl, rfl⟩]
theorem WIDw.put (h : WIDw Y es P t15 (U.1 25) nw wa wn wi wk) (hnw : nw < 16777216) (h25 : V.1 25 = tset 5 (tput 5 (U.1 25) (nI a) (nI (a + n)) (nI i) x3) (nI nw) 4 x4) (hi : i < (Y 11).1) (hb : a + n ≤ (Y 0).1) (hk : (x3 = -1 ∧ x4 = 1 ∧ (n = 0 ∨ WTC Y es a n i)) ∨ (∃ pl, pl < P ∧ x3 = nI pl ∧ x4 = 0 ∧ ¬ NXW Y t15 P a n i ∧ ∃ al Lk rs, ¬ al = 2 ∧ rgs Y (im Y i) Lk a (a + n) ∧ 1 ≤ Lk.length ∧ SRT Y es i al a rs n ∧ (bb = true → Lk = [true]) ∧ (bb = false → ¬ true ∈ Lk)) ∨ ∃ pl, pl < P ∧ x3 = nI pl ∧ x4 = 1 ∧ WTC Y es a n i ∧ ∀ q, NXP Y t15 P a n i q → q = pl) : WIDw Y es P t15 (V.1 25) (nw + 1) (upv wa nw a) (upv wn nw n) (upv wi nw i) (upv wk nw bb) := by
  obtain ⟨e1, eold, n0, n1, n2, n3, n4⟩ := wide_rows h.1.1 hnw h25
  refine ⟨⟨e1, by omega⟩, fun r hr => ?_⟩
  by_cases er : r = nw
  · rw [er, upv_eq, upv_eq, upv_eq, upv_eq, n3, n4]
    exact ⟨⟨n0, n1, n2, hi, hb⟩, hk⟩
  · have hrn : r < nw := by omega
    rw [upv_ne hrn, upv_ne hrn, upv_ne hrn, upv_ne hrn, eold r 0 hrn, eold r 1 hrn, eold r 2 hrn, eold r 3 hrn, eold r 4 hrn]
    exact h.2 r hrn
theorem wlv_put (hn : (U.1 25).1 = nw) (hnw : nw < 16777216) (h25 : V.1 25 = tset 5 (tput 5 (U.1 25) (nI a) (nI (a + n)) (nI i) x3) (nI nw) 4 x4) (h15 : V.1 15 = U.1 15) (h98 : V.2.2.1 99 8 = U.2.2.1 99 8) (hr : r < nw) : WLV Y V P f od (upv wa nw a) (upv wn nw n) (upv wi nw i) (upv wk nw bb) r s t ↔ WLV Y U P f od wa wn wi wk r s t := by
  obtain ⟨-, eold, -⟩ := wide_rows hn hnw h25
  unfold WLV
  rw [upv_ne hr, upv_ne hr, upv_ne hr, upv_ne hr, eold r 3 hr, eold r 4 hr, h98, trs_same h15 h98]
  unfold CHSw
  rw [vst_same h15 h98]
end WidePut
