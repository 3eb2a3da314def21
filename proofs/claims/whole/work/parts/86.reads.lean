/-! WHAT ONLY READS: Model, Sound, Judge -/
theorem i32_up {x y : Int32} (h : x < y) : (2147483647 - (x + 1).toInt).toNat < (2147483647 - x.toInt).toNat := by
  have h1 := Int32.lt_iff_toInt_lt.mp h
  have h2 := y.toInt_lt
  have h3 := x.le_toInt
  have e : (x + 1).toInt = x.toInt + 1 := by
    rw [Int32.toInt_add]
    show Int.bmod (x.toInt + 1) (2 ^ 32) = _
    have e32 : (2 : Nat) ^ 32 = 4294967296 := by decide
    have e31 : -(2 : Int) ^ 31 = -2147483648 := by decide
    have e31' : (2 : Int) ^ 31 = 2147483648 := by decide
    rw [e31] at h3
    rw [e31'] at h2
    rw [e32]
    exact Int.bmod_eq_of_le (by omega) (by omega)
  rw [e]
  omega
section Reads
variable {H : mu_H} {d m : Nat}
theorem md_w0 (hm : m = 2 ∨ m = 41) : gi_w (m + 1) = some 2 := by rcases hm with e | e <;> subst e <;> rfl
theorem md_w1 (hm : m = 2 ∨ m = 41) : gi_w (m + 3) = some 11 := by rcases hm with e | e <;> subst e <;> rfl
theorem md_w2 (hm : m = 2 ∨ m = 41) : gi_w (m + 5) = some 1 := by rcases hm with e | e <;> subst e <;> rfl
theorem md_w3 (hm : m = 2 ∨ m = 41) : gi_w (m + 7) = some 6 := by rcases hm with e | e <;> subst e <;> rfl
theorem md_w4 (hm : m = 2 ∨ m = 41) : gi_w (m + 9) = some 2 := by rcases hm with e | e <;> subst e <;> rfl
theorem md_w5 (hm : m = 2 ∨ m = 41) : gi_w (m + 11) = some 2 := by rcases hm with e | e <;> subst e <;> rfl
theorem md_w6 (hm : m = 2 ∨ m = 41) : gi_w (m + 13) = some 3 := by rcases hm with e | e <;> subst e <;> rfl
theorem md_w7 (hm : m = 2 ∨ m = 41) : gi_w (m + 15) = some 4 := by rcases hm with e | e <;> subst e <;> rfl
theorem md_w8 (hm : m = 2 ∨ m = 41) : gi_w (m + 17) = some 3 := by rcases hm with e | e <;> subst e <;> rfl
theorem md_w9 (hm : m = 2 ∨ m = 41) : gi_w (m + 19) = some 4 := by rcases hm with e | e <;> subst e <;> rfl
theorem md_w10 (hm : m = 2 ∨ m = 41) : gi_w (m + 21) = some 1 := by rcases hm with e | e <;> subst e <;> rfl
theorem md_w11 (hm : m = 2 ∨ m = 41) : gi_w (m + 23) = some 4 := by rcases hm with e | e <;> subst e <;> rfl
theorem md_w12 (hm : m = 2 ∨ m = 41) : gi_w (m + 25) = some 1 := by rcases hm with e | e <;> subst e <;> rfl
theorem md_w13 (hm : m = 2 ∨ m = 41) : gi_w (m + 27) = some 6 := by rcases hm with e | e <;> subst e <;> rfl
theorem md_w14 (hm : m = 2 ∨ m = 41) : gi_w (m + 29) = some 1 := by rcases hm with e | e <;> subst e <;> rfl
theorem md_w15 (hm : m = 2 ∨ m = 41) : gi_w (m + 31) = some 4 := by rcases hm with e | e <;> subst e <;> rfl
theorem md_w16 (hm : m = 2 ∨ m = 41) : gi_w (m + 33) = some 4 := by rcases hm with e | e <;> subst e <;> rfl
theorem md_w17 (hm : m = 2 ∨ m = 41) : gi_w (m + 35) = some 3 := by rcases hm with e | e <;> subst e <;> rfl
theorem md_w18 (hm : m = 2 ∨ m = 41) : gi_w (m + 37) = some 2 := by rcases hm with e | e <;> subst e <;> rfl
/-- how many parts an operator may have -/
def pp (op arg x : Int32) : Prop := x = 0 ∨ x = 1 ∨ x = 2 ∨ (x = arg + 1 ∧ op = 30) ∨ (x = arg ∧ op = 33) ∨ (x = 2 * arg ∧ (op = 31 ∨ op = 34))
/-- PathProver.partsOf(II)I -/
abbrev mu_m379 : ev_M := (2, (some .int), [], ev_b379)
theorem mu_g379 : mu_good mu_m379 := mu_goodk ev_k379
theorem pv_parts (hg : gi H) (op arg : Int32) : mu_TI (mu_D (d + 1)) 379 [.inl op, .inl arg] H (fun x H1 => H = H1 ∧ pp op arg x) := by
  refine mu_meth (M := mu_m379) rfl rfl ?_
  refine mw_ht (mu_fn_of (show [0, 1].Nodup by decide)) ?_
  refine mw_go mu_g379 (k := 2) (f1 := (2, [(0, .inl op), (1, .inl arg)], [.inl (3 : Int32), .inl op], H)) (C := []) rfl trivial ?_
  refine mw_if (P := (3 : Int32) < op) (a := 7) (b := 5) (fun _ => rfl) trivial (fun h1 => ?_) (fun h1 => ?_)
  · -- 7: (3 : Int32) < op
    refine mw_go mu_g379 (k := 2) (f1 := (10, [(0, .inl op), (1, .inl arg)], [.inl (9 : Int32), .inl op], H)) (C := []) rfl trivial ?_
    refine mw_if (P := op < (9 : Int32)) (a := 19) (b := 13) (fun _ => rfl) trivial (fun h2 => ?_) (fun h2 => ?_)
    · -- 19: op < (9 : Int32)
      refine mw_go mu_g379 (k := 2) (f1 := (22, [(0, .inl op), (1, .inl arg)], [.inl (27 : Int32), .inl op], H)) (C := []) rfl trivial ?_
      refine mw_if (P := op = (27 : Int32)) (a := 31) (b := 25) (fun _ => rfl) trivial (fun h3 => ?_) (fun h3 => ?_)
      · -- 31: op = (27 : Int32)
        refine mw_go mu_g379 (k := 1) (f1 := (32, [(0, .inl op), (1, .inl arg)], [.inl (1 : Int32)], H)) (C := []) rfl trivial ?_
        exact mw_of (fun _ => mu_ret rfl trivial ⟨_, _, rfl, rfl, Or.inr (Or.inl rfl)⟩)
      · -- 25: not op = (27 : Int32)
        refine mw_go mu_g379 (k := 2) (f1 := (28, [(0, .inl op), (1, .inl arg)], [.inl (32 : Int32), .inl op], H)) (C := []) rfl trivial ?_
        refine mw_if (P := op = (32 : Int32)) (a := 31) (b := 33) (fun _ => rfl) trivial (fun h4 => ?_) (fun h4 => ?_)
        · -- 31: op = (32 : Int32)
          refine mw_go mu_g379 (k := 1) (f1 := (32, [(0, .inl op), (1, .inl arg)], [.inl (1 : Int32)], H)) (C := []) rfl trivial ?_
          exact mw_of (fun _ => mu_ret rfl trivial ⟨_, _, rfl, rfl, Or.inr (Or.inl rfl)⟩)
        · -- 33: not op = (32 : Int32)
          refine mw_go mu_g379 (k := 1) (f1 := (34, [(0, .inl op), (1, .inl arg)], [.inl op], H)) (C := []) rfl trivial ?_
          refine mw_tsw rfl (by decide) ?_ ⟨fun z => ?_, fun z => ?_, fun z => ?_, fun z => ?_, fun z => ?_, trivial⟩
          · -- None: 78
            refine mw_go mu_g379 (k := 1) (f1 := (79, [(0, .inl op), (1, .inl arg)], [.inl (2 : Int32)], H)) (C := []) rfl trivial ?_
            exact mw_of (fun _ => mu_ret rfl trivial ⟨_, _, rfl, rfl, Or.inr (Or.inr (Or.inl rfl))⟩)
          · -- 30: 68
            have h6 : op = (30 : Int32) := Int32.toInt_inj.mp (z.trans (by decide))
            refine mw_go mu_g379 (k := 3) (f1 := (71, [(0, .inl op), (1, .inl arg)], [.inl (arg + (1 : Int32))], H)) (C := []) rfl trivial ?_
            exact mw_of (fun _ => mu_ret rfl trivial ⟨_, _, rfl, rfl, Or.inr (Or.inr (Or.inr (Or.inl ⟨rfl, h6⟩)))⟩)
          · -- 31: 74
            have h7 : op = (31 : Int32) := Int32.toInt_inj.mp (z.trans (by decide))
            refine mw_go mu_g379 (k := 3) (f1 := (77, [(0, .inl op), (1, .inl arg)], [.inl ((2 : Int32) * arg)], H)) (C := []) rfl trivial ?_
            exact mw_of (fun _ => mu_ret rfl trivial ⟨_, _, rfl, rfl, Or.inr (Or.inr (Or.inr (Or.inr (Or.inr ⟨rfl, Or.inl h7⟩))))⟩)
          · -- 32: 78
            have h8 : op = (32 : Int32) := Int32.toInt_inj.mp (z.trans (by decide))
            refine mw_go mu_g379 (k := 1) (f1 := (79, [(0, .inl op), (1, .inl arg)], [.inl (2 : Int32)], H)) (C := []) rfl trivial ?_
            exact mw_of (fun _ => mu_ret rfl trivial ⟨_, _, rfl, rfl, Or.inr (Or.inr (Or.inl rfl))⟩)
          · -- 33: 72
            have h9 : op = (33 : Int32) := Int32.toInt_inj.mp (z.trans (by decide))
            refine mw_go mu_g379 (k := 1) (f1 := (73, [(0, .inl op), (1, .inl arg)], [.inl arg], H)) (C := []) rfl trivial ?_
            exact mw_of (fun _ => mu_ret rfl trivial ⟨_, _, rfl, rfl, Or.inr (Or.inr (Or.inr (Or.inr (Or.inl ⟨rfl, h9⟩))))⟩)
          · -- 34: 74
            have h10 : op = (34 : Int32) := Int32.toInt_inj.mp (z.trans (by decide))
            refine mw_go mu_g379 (k := 3) (f1 := (77, [(0, .inl op), (1, .inl arg)], [.inl ((2 : Int32) * arg)], H)) (C := []) rfl trivial ?_
            exact mw_of (fun _ => mu_ret rfl trivial ⟨_, _, rfl, rfl, Or.inr (Or.inr (Or.inr (Or.inr (Or.inr ⟨rfl, Or.inr h10⟩))))⟩)
    · -- 13: not op < (9 : Int32)
      refine mw_go mu_g379 (k := 2) (f1 := (16, [(0, .inl op), (1, .inl arg)], [.inl (15 : Int32), .inl op], H)) (C := []) rfl trivial ?_
      refine mw_if (P := (15 : Int32) < op) (a := 19) (b := 31) (fun _ => rfl) trivial (fun h11 => ?_) (fun h11 => ?_)
      · -- 19: (15 : Int32) < op
        refine mw_go mu_g379 (k := 2) (f1 := (22, [(0, .inl op), (1, .inl arg)], [.inl (27 : Int32), .inl op], H)) (C := []) rfl trivial ?_
        refine mw_if (P := op = (27 : Int32)) (a := 31) (b := 25) (fun _ => rfl) trivial (fun h12 => ?_) (fun h12 => ?_)
        · -- 31: op = (27 : Int32)
          refine mw_go mu_g379 (k := 1) (f1 := (32, [(0, .inl op), (1, .inl arg)], [.inl (1 : Int32)], H)) (C := []) rfl trivial ?_
          exact mw_of (fun _ => mu_ret rfl trivial ⟨_, _, rfl, rfl, Or.inr (Or.inl rfl)⟩)
        · -- 25: not op = (27 : Int32)
          refine mw_go mu_g379 (k := 2) (f1 := (28, [(0, .inl op), (1, .inl arg)], [.inl (32 : Int32), .inl op], H)) (C := []) rfl trivial ?_
          refine mw_if (P := op = (32 : Int32)) (a := 31) (b := 33) (fun _ => rfl) trivial (fun h13 => ?_) (fun h13 => ?_)
          · -- 31: op = (32 : Int32)
            refine mw_go mu_g379 (k := 1) (f1 := (32, [(0, .inl op), (1, .inl arg)], [.inl (1 : Int32)], H)) (C := []) rfl trivial ?_
            exact mw_of (fun _ => mu_ret rfl trivial ⟨_, _, rfl, rfl, Or.inr (Or.inl rfl)⟩)
          · -- 33: not op = (32 : Int32)
            refine mw_go mu_g379 (k := 1) (f1 := (34, [(0, .inl op), (1, .inl arg)], [.inl op], H)) (C := []) rfl trivial ?_
            refine mw_tsw rfl (by decide) ?_ ⟨fun z => ?_, fun z => ?_, fun z => ?_, fun z => ?_, fun z => ?_, trivial⟩
            · -- None: 78
              refine mw_go mu_g379 (k := 1) (f1 := (79, [(0, .inl op), (1, .inl arg)], [.inl (2 : Int32)], H)) (C := []) rfl trivial ?_
              exact mw_of (fun _ => mu_ret rfl trivial ⟨_, _, rfl, rfl, Or.inr (Or.inr (Or.inl rfl))⟩)
            · -- 30: 68
              have h15 : op = (30 : Int32) := Int32.toInt_inj.mp (z.trans (by decide))
              refine mw_go mu_g379 (k := 3) (f1 := (71, [(0, .inl op), (1, .inl arg)], [.inl (arg + (1 : Int32))], H)) (C := []) rfl trivial ?_
              exact mw_of (fun _ => mu_ret rfl trivial ⟨_, _, rfl, rfl, Or.inr (Or.inr (Or.inr (Or.inl ⟨rfl, h15⟩)))⟩)
            · -- 31: 74
              have h16 : op = (31 : Int32) := Int32.toInt_inj.mp (z.trans (by decide))
              refine mw_go mu_g379 (k := 3) (f1 := (77, [(0, .inl op), (1, .inl arg)], [.inl ((2 : Int32) * arg)], H)) (C := []) rfl trivial ?_
              exact mw_of (fun _ => mu_ret rfl trivial ⟨_, _, rfl, rfl, Or.inr (Or.inr (Or.inr (Or.inr (Or.inr ⟨rfl, Or.inl h16⟩))))⟩)
            · -- 32: 78
              have h17 : op = (32 : Int32) := Int32.toInt_inj.mp (z.trans (by decide))
              refine mw_go mu_g379 (k := 1) (f1 := (79, [(0, .inl op), (1, .inl arg)], [.inl (2 : Int32)], H)) (C := []) rfl trivial ?_
              exact mw_of (fun _ => mu_ret rfl trivial ⟨_, _, rfl, rfl, Or.inr (Or.inr (Or.inl rfl))⟩)
            · -- 33: 72
              have h18 : op = (33 : Int32) := Int32.toInt_inj.mp (z.trans (by decide))
              refine mw_go mu_g379 (k := 1) (f1 := (73, [(0, .inl op), (1, .inl arg)], [.inl arg], H)) (C := []) rfl trivial ?_
              exact mw_of (fun _ => mu_ret rfl trivial ⟨_, _, rfl, rfl, Or.inr (Or.inr (Or.inr (Or.inr (Or.inl ⟨rfl, h18⟩))))⟩)
            · -- 34: 74
              have h19 : op = (34 : Int32) := Int32.toInt_inj.mp (z.trans (by decide))
              refine mw_go mu_g379 (k := 3) (f1 := (77, [(0, .inl op), (1, .inl arg)], [.inl ((2 : Int32) * arg)], H)) (C := []) rfl trivial ?_
              exact mw_of (fun _ => mu_ret rfl trivial ⟨_, _, rfl, rfl, Or.inr (Or.inr (Or.inr (Or.inr (Or.inr ⟨rfl, Or.inr h19⟩))))⟩)
      · -- 31: not (15 : Int32) < op
        refine mw_go mu_g379 (k := 1) (f1 := (32, [(0, .inl op), (1, .inl arg)], [.inl (1 : Int32)], H)) (C := []) rfl trivial ?_
        exact mw_of (fun _ => mu_ret rfl trivial ⟨_, _, rfl, rfl, Or.inr (Or.inl rfl)⟩)
  · -- 5: not (3 : Int32) < op
    refine mw_go mu_g379 (k := 1) (f1 := (6, [(0, .inl op), (1, .inl arg)], [.inl (0 : Int32)], H)) (C := []) rfl trivial ?_
    exact mw_of (fun _ => mu_ret rfl trivial ⟨_, _, rfl, rfl, Or.inl rfl⟩)
/-- PathProver.isTimed(I)Z -/
abbrev mu_m380 : ev_M := (1, (some .boolean), [], ev_b380)
theorem mu_g380 : mu_good mu_m380 := mu_goodk ev_k380
theorem pv_timed (hg : gi H) (op : Int32) : mu_TI (mu_D (d + 1)) 380 [.inl op] H (fun x H1 => H = H1 ∧ (x = 0 ∨ x = 1)) := by
  refine mu_meth (M := mu_m380) rfl rfl ?_
  refine mw_ht (mu_fn_of (show [0].Nodup by decide)) ?_
  refine mw_go mu_g380 (k := 2) (f1 := (3, [(0, .inl op)], [.inl (10 : Int32), .inl op], H)) (C := []) rfl trivial ?_
  refine mw_if (P := op < (10 : Int32)) (a := 12) (b := 6) (fun _ => rfl) trivial (fun h1 => ?_) (fun h1 => ?_)
  · -- 12: op < (10 : Int32)
    refine mw_go mu_g380 (k := 2) (f1 := (15, [(0, .inl op)], [.inl (28 : Int32), .inl op], H)) (C := []) rfl trivial ?_
    refine mw_if (P := op = (28 : Int32)) (a := 24) (b := 18) (fun _ => rfl) trivial (fun h2 => ?_) (fun h2 => ?_)
    · -- 24: op = (28 : Int32)
      refine mw_go mu_g380 (k := 2) (f1 := (29, [(0, .inl op)], [.inl (1 : Int32)], H)) (C := []) rfl trivial ?_
      exact mw_of (fun _ => mu_ret rfl (Or.inr rfl) ⟨_, _, rfl, rfl, Or.inr rfl⟩)
    · -- 18: not op = (28 : Int32)
      refine mw_go mu_g380 (k := 2) (f1 := (21, [(0, .inl op)], [.inl (29 : Int32), .inl op], H)) (C := []) rfl trivial ?_
      refine mw_if (P := op = (29 : Int32)) (a := 24) (b := 28) (fun _ => rfl) trivial (fun h3 => ?_) (fun h3 => ?_)
      · -- 24: op = (29 : Int32)
        refine mw_go mu_g380 (k := 2) (f1 := (29, [(0, .inl op)], [.inl (1 : Int32)], H)) (C := []) rfl trivial ?_
        exact mw_of (fun _ => mu_ret rfl (Or.inr rfl) ⟨_, _, rfl, rfl, Or.inr rfl⟩)
      · -- 28: not op = (29 : Int32)
        refine mw_go mu_g380 (k := 1) (f1 := (29, [(0, .inl op)], [.inl (0 : Int32)], H)) (C := []) rfl trivial ?_
        exact mw_of (fun _ => mu_ret rfl (Or.inl rfl) ⟨_, _, rfl, rfl, Or.inl rfl⟩)
  · -- 6: not op < (10 : Int32)
    refine mw_go mu_g380 (k := 2) (f1 := (9, [(0, .inl op)], [.inl (15 : Int32), .inl op], H)) (C := []) rfl trivial ?_
    refine mw_if (P := (15 : Int32) < op) (a := 12) (b := 24) (fun _ => rfl) trivial (fun h4 => ?_) (fun h4 => ?_)
    · -- 12: (15 : Int32) < op
      refine mw_go mu_g380 (k := 2) (f1 := (15, [(0, .inl op)], [.inl (28 : Int32), .inl op], H)) (C := []) rfl trivial ?_
      refine mw_if (P := op = (28 : Int32)) (a := 24) (b := 18) (fun _ => rfl) trivial (fun h5 => ?_) (fun h5 => ?_)
      · -- 24: op = (28 : Int32)
        refine mw_go mu_g380 (k := 2) (f1 := (29, [(0, .inl op)], [.inl (1 : Int32)], H)) (C := []) rfl trivial ?_
        exact mw_of (fun _ => mu_ret rfl (Or.inr rfl) ⟨_, _, rfl, rfl, Or.inr rfl⟩)
      · -- 18: not op = (28 : Int32)
        refine mw_go mu_g380 (k := 2) (f1 := (21, [(0, .inl op)], [.inl (29 : Int32), .inl op], H)) (C := []) rfl trivial ?_
        refine mw_if (P := op = (29 : Int32)) (a := 24) (b := 28) (fun _ => rfl) trivial (fun h6 => ?_) (fun h6 => ?_)
        · -- 24: op = (29 : Int32)
          refine mw_go mu_g380 (k := 2) (f1 := (29, [(0, .inl op)], [.inl (1 : Int32)], H)) (C := []) rfl trivial ?_
          exact mw_of (fun _ => mu_ret rfl (Or.inr rfl) ⟨_, _, rfl, rfl, Or.inr rfl⟩)
        · -- 28: not op = (29 : Int32)
          refine mw_go mu_g380 (k := 1) (f1 := (29, [(0, .inl op)], [.inl (0 : Int32)], H)) (C := []) rfl trivial ?_
          exact mw_of (fun _ => mu_ret rfl (Or.inl rfl) ⟨_, _, rfl, rfl, Or.inl rfl⟩)
    · -- 24: not (15 : Int32) < op
      refine mw_go mu_g380 (k := 2) (f1 := (29, [(0, .inl op)], [.inl (1 : Int32)], H)) (C := []) rfl trivial ?_
      exact mw_of (fun _ => mu_ret rfl (Or.inr rfl) ⟨_, _, rfl, rfl, Or.inr rfl⟩)
/-- PathProver$Model.stop(IILPathProver$Rows;)I -/
abbrev mu_m130 : ev_M := (4, (some .int), [], ev_b130)
theorem mu_g130 : mu_good mu_m130 := mu_goodk ev_k130
theorem md_stop (hg : gi H) (hm : m = 2 ∨ m = 41) {r W c : Nat} (hr : gi_w r = some W) (hc31 : c < 2 ^ 31) (v : Int32) : mu_TI (mu_D (d + 2)) 130 [.inr (.inr (some m)), .inl v, .inl (nI c), .inr (.inr (some r))] H (fun x H1 => H = H1 ∧ ((x = rw_get H (m + 3) 11 (gi_sz H (m + 3)) (v + 1) c ∧ v + 1 < mu_i H (m + 3) 2) ∨ (x = mu_i H r 2 ∧ ¬ v + 1 < mu_i H (m + 3) 2))) := by
  refine mu_meth (M := mu_m130) rfl rfl ?_
  refine mw_ht (mu_fn_of (show [0, 1, 2, 3].Nodup by decide)) ?_
  refine mw_go mu_g130 (k := 5) (f1 := (7, [(0, .inr (.inr (some m))), (1, .inl v), (2, .inl (nI c)), (3, .inr (.inr (some r)))], [.inr (.inr (mu_r H m 1)), .inl (v + (1 : Int32))], H)) (C := [mu_is H (some m) 6]) rfl (show mu_is H (some m) 6 from gi_im hg hm) ?_
  rw [(show mu_r H m 1 = some (m + 3) from (gi_mr hg hm (j := 1) (by decide)).trans (congrArg some (by omega)))]
  refine mw_go mu_g130 (k := 1) (f1 := (10, [(0, .inr (.inr (some m))), (1, .inl v), (2, .inl (nI c)), (3, .inr (.inr (some r)))], [.inl (mu_i H (m + 3) 2), .inl (v + (1 : Int32))], H)) (C := [mu_is H (some (m + 3)) 10]) rfl (show mu_is H (some (m + 3)) 10 from (hg.w (md_w1 hm)).1) ?_
  refine mw_if (P := (v + (1 : Int32)) < (mu_i H (m + 3) 2)) (a := 13) (b := 27) (fun _ => rfl) trivial (fun h1 => ?_) (fun h1 => ?_)
  · -- 13: (v + (1 : Int32)) < (mu_i H (m + 3) 2)
    refine mw_go mu_g130 (k := 2) (f1 := (17, [(0, .inr (.inr (some m))), (1, .inl v), (2, .inl (nI c)), (3, .inr (.inr (some r)))], [.inr (.inr (mu_r H m 1))], H)) (C := [mu_is H (some m) 6]) rfl (show mu_is H (some m) 6 from gi_im hg hm) ?_
    rw [(show mu_r H m 1 = some (m + 3) from (gi_mr hg hm (j := 1) (by decide)).trans (congrArg some (by omega)))]
    refine mw_go mu_g130 (k := 4) (f1 := (21, [(0, .inr (.inr (some m))), (1, .inl v), (2, .inl (nI c)), (3, .inr (.inr (some r)))], [.inl (nI c), .inl (v + (1 : Int32)), .inr (.inr (some (m + 3)))], H)) (C := []) rfl trivial ?_
    refine mw_cIe (fun _ => rfl) (show mu_is H (some (m + 3)) 10 from (hg.w (md_w1 hm)).1) (gi_get_ok (d := d) hg (md_w1 hm) (v + (1 : Int32)) (j := c) hc31) ?_
    refine mw_go mu_g130 (k := 1) (f1 := (31, [(0, .inr (.inr (some m))), (1, .inl v), (2, .inl (nI c)), (3, .inr (.inr (some r)))], [.inl (rw_get H (m + 3) 11 (gi_sz H (m + 3)) (v + (1 : Int32)) c)], H)) (C := []) rfl trivial ?_
    exact mw_of (fun _ => mu_ret rfl trivial ⟨_, _, rfl, rfl, Or.inl ⟨rfl, h1⟩⟩)
  · -- 27: not (v + (1 : Int32)) < (mu_i H (m + 3) 2)
    refine mw_go mu_g130 (k := 2) (f1 := (31, [(0, .inr (.inr (some m))), (1, .inl v), (2, .inl (nI c)), (3, .inr (.inr (some r)))], [.inl (mu_i H r 2)], H)) (C := [mu_is H (some r) 10]) rfl (show mu_is H (some r) 10 from (hg.w hr).1) ?_
    exact mw_of (fun _ => mu_ret rfl trivial ⟨_, _, rfl, rfl, Or.inr ⟨rfl, h1⟩⟩)
/-- PathProver$Model.worth(II)I -/
abbrev mu_m127 : ev_M := (5, (some .int), [], ev_b127)
theorem mu_g127 : mu_good mu_m127 := mu_goodk ev_k127
theorem md_worth (hg : gi H) (hm : m = 2 ∨ m = 41) (v w : Int32) : mu_TI (mu_D (d + 2)) 127 [.inr (.inr (some m)), .inl v, .inl w] H (fun x H1 => H = H1) := by
  refine mu_meth (M := mu_m127) rfl rfl ?_
  refine mw_ht (mu_fn_of (show [0, 1, 2].Nodup by decide)) ?_
  refine mw_go mu_g127 (k := 2) (f1 := (4, [(0, .inr (.inr (some m))), (1, .inl v), (2, .inl w)], [.inr (.inr (mu_r H m 3))], H)) (C := [mu_is H (some m) 6]) rfl (show mu_is H (some m) 6 from gi_im hg hm) ?_
  rw [(show mu_r H m 3 = some (m + 7) from (gi_mr hg hm (j := 3) (by decide)).trans (congrArg some (by omega)))]
  refine mw_go mu_g127 (k := 2) (f1 := (6, [(0, .inr (.inr (some m))), (1, .inl v), (2, .inl w)], [.inl (1 : Int32), .inl v, .inr (.inr (some (m + 7)))], H)) (C := []) rfl trivial ?_
  refine mw_cIe (fun _ => rfl) (show mu_is H (some (m + 7)) 10 from (hg.w (md_w3 hm)).1) (gi_get_ok (d := d) hg (md_w3 hm) v (j := 1) (by decide)) ?_
  refine mw_go mu_g127 (k := 2) (f1 := (11, [(3, .inl (rw_get H (m + 7) 6 (gi_sz H (m + 7)) v 1)), (0, .inr (.inr (some m))), (1, .inl v), (2, .inl w)], [.inl (rw_get H (m + 7) 6 (gi_sz H (m + 7)) v 1)], H)) (C := []) rfl trivial ?_
  refine mw_if (P := (rw_get H (m + 7) 6 (gi_sz H (m + 7)) v 1) = 0) (a := 14) (b := 16) (fun _ => rfl) trivial (fun h2 => ?_) (fun h2 => ?_)
  · -- 14: (rw_get H (m + 7) 6 (gi_sz H (m + 7)) v 1) = 0
    refine mw_go mu_g127 (k := 1) (f1 := (15, [(3, .inl (rw_get H (m + 7) 6 (gi_sz H (m + 7)) v 1)), (0, .inr (.inr (some m))), (1, .inl v), (2, .inl w)], [.inl w], H)) (C := []) rfl trivial ?_
    exact mw_of (fun _ => mu_ret rfl trivial ⟨_, _, rfl, rfl⟩)
  · -- 16: not (rw_get H (m + 7) 6 (gi_sz H (m + 7)) v 1) = 0
    refine mw_go mu_g127 (k := 2) (f1 := (20, [(3, .inl (rw_get H (m + 7) 6 (gi_sz H (m + 7)) v 1)), (0, .inr (.inr (some m))), (1, .inl v), (2, .inl w)], [.inr (.inr (mu_r H m 3))], H)) (C := [mu_is H (some m) 6]) rfl (show mu_is H (some m) 6 from gi_im hg hm) ?_
    rw [(show mu_r H m 3 = some (m + 7) from (gi_mr hg hm (j := 3) (by decide)).trans (congrArg some (by omega)))]
    refine mw_go mu_g127 (k := 2) (f1 := (22, [(3, .inl (rw_get H (m + 7) 6 (gi_sz H (m + 7)) v 1)), (0, .inr (.inr (some m))), (1, .inl v), (2, .inl w)], [.inl (2 : Int32), .inl v, .inr (.inr (some (m + 7)))], H)) (C := []) rfl trivial ?_
    refine mw_cIe (fun _ => rfl) (show mu_is H (some (m + 7)) 10 from (hg.w (md_w3 hm)).1) (gi_get_ok (d := d) hg (md_w3 hm) v (j := 2) (by decide)) ?_
    refine mw_go mu_g127 (k := 3) (f1 := (29, [(4, .inl (rw_get H (m + 7) 6 (gi_sz H (m + 7)) v 2)), (3, .inl (rw_get H (m + 7) 6 (gi_sz H (m + 7)) v 1)), (0, .inr (.inr (some m))), (1, .inl v), (2, .inl w)], [.inl (1 : Int32), .inl (rw_get H (m + 7) 6 (gi_sz H (m + 7)) v 1)], H)) (C := []) rfl trivial ?_
    refine mw_if (P := (rw_get H (m + 7) 6 (gi_sz H (m + 7)) v 1) = (1 : Int32)) (a := 32) (b := 39) (fun _ => rfl) trivial (fun h4 => ?_) (fun h4 => ?_)
    · -- 32: (rw_get H (m + 7) 6 (gi_sz H (m + 7)) v 1) = (1 : Int32)
      refine mw_go mu_g127 (k := 4) (f1 := (51, [(4, .inl (rw_get H (m + 7) 6 (gi_sz H (m + 7)) v 2)), (3, .inl (rw_get H (m + 7) 6 (gi_sz H (m + 7)) v 1)), (0, .inr (.inr (some m))), (1, .inl v), (2, .inl w)], [.inl ((rw_get H (m + 7) 6 (gi_sz H (m + 7)) v 2) + w)], H)) (C := []) rfl trivial ?_
      exact mw_of (fun _ => mu_ret rfl trivial ⟨_, _, rfl, rfl⟩)
    · -- 39: not (rw_get H (m + 7) 6 (gi_sz H (m + 7)) v 1) = (1 : Int32)
      refine mw_go mu_g127 (k := 2) (f1 := (43, [(4, .inl (rw_get H (m + 7) 6 (gi_sz H (m + 7)) v 2)), (3, .inl (rw_get H (m + 7) 6 (gi_sz H (m + 7)) v 1)), (0, .inr (.inr (some m))), (1, .inl v), (2, .inl w)], [.inr (.inr (mu_r H m 4))], H)) (C := [mu_is H (some m) 6]) rfl (show mu_is H (some m) 6 from gi_im hg hm) ?_
      rw [(show mu_r H m 4 = some (m + 9) from (gi_mr hg hm (j := 4) (by decide)).trans (congrArg some (by omega)))]
      refine mw_go mu_g127 (k := 4) (f1 := (48, [(4, .inl (rw_get H (m + 7) 6 (gi_sz H (m + 7)) v 2)), (3, .inl (rw_get H (m + 7) 6 (gi_sz H (m + 7)) v 1)), (0, .inr (.inr (some m))), (1, .inl v), (2, .inl w)], [.inl (0 : Int32), .inl ((rw_get H (m + 7) 6 (gi_sz H (m + 7)) v 2) + w), .inr (.inr (some (m + 9)))], H)) (C := []) rfl trivial ?_
      refine mw_cIe (fun _ => rfl) (show mu_is H (some (m + 9)) 10 from (hg.w (md_w4 hm)).1) (gi_get_ok (d := d) hg (md_w4 hm) ((rw_get H (m + 7) 6 (gi_sz H (m + 7)) v 2) + w) (j := 0) (by decide)) ?_
      exact mw_of (fun _ => mu_ret rfl trivial ⟨_, _, rfl, rfl⟩)
/-- PathProver$Model.startOf(I)I -/
abbrev mu_m128 : ev_M := (4, (some .int), [], ev_b128)
theorem mu_g128 : mu_good mu_m128 := mu_goodk ev_k128
/-- PathProver$Model.bits()I -/
abbrev mu_m131 : ev_M := (3, (some .int), [], ev_b131)
theorem mu_g131 : mu_good mu_m131 := mu_goodk ev_k131
/-- PathProver$Model.reach(II)I -/
abbrev mu_m125 : ev_M := (8, (some .int), [], ev_b125)
theorem mu_g125 : mu_good mu_m125 := mu_goodk ev_k125
theorem md_reach (hg : gi H) (hm : m = 2 ∨ m = 41) (v w : Int32) : mu_TI (mu_D (d + 2)) 125 [.inr (.inr (some m)), .inl v, .inl w] H (fun x H1 => H = H1) := by
  refine mu_meth (M := mu_m125) rfl rfl ?_
  refine mw_ht (mu_fn_of (show [0, 1, 2].Nodup by decide)) ?_
  refine mw_go mu_g125 (k := 2) (f1 := (4, [(0, .inr (.inr (some m))), (1, .inl v), (2, .inl w)], [.inr (.inr (mu_r H m 9))], H)) (C := [mu_is H (some m) 6]) rfl (show mu_is H (some m) 6 from gi_im hg hm) ?_
  rw [(show mu_r H m 9 = some (m + 19) from (gi_mr hg hm (j := 9) (by decide)).trans (congrArg some (by omega)))]
  refine mw_go mu_g125 (k := 2) (f1 := (6, [(0, .inr (.inr (some m))), (1, .inl v), (2, .inl w)], [.inl (2 : Int32), .inl v, .inr (.inr (some (m + 19)))], H)) (C := []) rfl trivial ?_
  refine mw_cIe (fun _ => rfl) (show mu_is H (some (m + 19)) 10 from (hg.w (md_w9 hm)).1) (gi_get_ok (d := d) hg (md_w9 hm) v (j := 2) (by decide)) ?_
  refine mw_go mu_g125 (k := 3) (f1 := (14, [(3, .inl (rw_get H (m + 19) 4 (gi_sz H (m + 19)) v 2)), (0, .inr (.inr (some m))), (1, .inl v), (2, .inl w)], [.inr (.inr (mu_r H m 9))], H)) (C := [mu_is H (some m) 6]) rfl (show mu_is H (some m) 6 from gi_im hg hm) ?_
  rw [(show mu_r H m 9 = some (m + 19) from (gi_mr hg hm (j := 9) (by decide)).trans (congrArg some (by omega)))]
  refine mw_go mu_g125 (k := 2) (f1 := (16, [(3, .inl (rw_get H (m + 19) 4 (gi_sz H (m + 19)) v 2)), (0, .inr (.inr (some m))), (1, .inl v), (2, .inl w)], [.inl (3 : Int32), .inl v, .inr (.inr (some (m + 19)))], H)) (C := []) rfl trivial ?_
  refine mw_cIe (fun _ => rfl) (show mu_is H (some (m + 19)) 10 from (hg.w (md_w9 hm)).1) (gi_get_ok (d := d) hg (md_w9 hm) v (j := 3) (by decide)) ?_
  refine mw_go mu_g125 (k := 3) (f1 := (23, [(4, .inl (rw_get H (m + 19) 4 (gi_sz H (m + 19)) v 3)), (3, .inl (rw_get H (m + 19) 4 (gi_sz H (m + 19)) v 2)), (0, .inr (.inr (some m))), (1, .inl v), (2, .inl w)], [.inl (5 : Int32), .inl (rw_get H (m + 19) 4 (gi_sz H (m + 19)) v 2)], H)) (C := []) rfl trivial ?_
  refine mw_if (P := (rw_get H (m + 19) 4 (gi_sz H (m + 19)) v 2) = (5 : Int32)) (a := 26) (b := 29) (fun _ => rfl) trivial (fun h3 => ?_) (fun h3 => ?_)
  · -- 26: (rw_get H (m + 19) 4 (gi_sz H (m + 19)) v 2) = (5 : Int32)
    refine mw_go mu_g125 (k := 1) (f1 := (28, [(4, .inl (rw_get H (m + 19) 4 (gi_sz H (m + 19)) v 3)), (3, .inl (rw_get H (m + 19) 4 (gi_sz H (m + 19)) v 2)), (0, .inr (.inr (some m))), (1, .inl v), (2, .inl w)], [.inl (rw_get H (m + 19) 4 (gi_sz H (m + 19)) v 3)], H)) (C := []) rfl trivial ?_
    exact mw_of (fun _ => mu_ret rfl trivial ⟨_, _, rfl, rfl⟩)
  · -- 29: not (rw_get H (m + 19) 4 (gi_sz H (m + 19)) v 2) = (5 : Int32)
    refine mw_go mu_g125 (k := 4) (f1 := (36, [(5, .inl w), (4, .inl (rw_get H (m + 19) 4 (gi_sz H (m + 19)) v 3)), (3, .inl (rw_get H (m + 19) 4 (gi_sz H (m + 19)) v 2)), (0, .inr (.inr (some m))), (1, .inl v), (2, .inl w)], [.inr (.inr (mu_r H m 9))], H)) (C := [mu_is H (some m) 6]) rfl (show mu_is H (some m) 6 from gi_im hg hm) ?_
    rw [(show mu_r H m 9 = some (m + 19) from (gi_mr hg hm (j := 9) (by decide)).trans (congrArg some (by omega)))]
    refine mw_go mu_g125 (k := 2) (f1 := (38, [(5, .inl w), (4, .inl (rw_get H (m + 19) 4 (gi_sz H (m + 19)) v 3)), (3, .inl (rw_get H (m + 19) 4 (gi_sz H (m + 19)) v 2)), (0, .inr (.inr (some m))), (1, .inl v), (2, .inl w)], [.inl (0 : Int32), .inl v, .inr (.inr (some (m + 19)))], H)) (C := []) rfl trivial ?_
    refine mw_cIe (fun _ => rfl) (show mu_is H (some (m + 19)) 10 from (hg.w (md_w9 hm)).1) (gi_get_ok (d := d) hg (md_w9 hm) v (j := 0) (by decide)) ?_
    refine mw_go mu_g125 (k := 3) (f1 := (46, [(7, .inl (0 : Int32)), (6, .inl (rw_get H (m + 19) 4 (gi_sz H (m + 19)) v 0)), (5, .inl w), (4, .inl (rw_get H (m + 19) 4 (gi_sz H (m + 19)) v 3)), (3, .inl (rw_get H (m + 19) 4 (gi_sz H (m + 19)) v 2)), (0, .inr (.inr (some m))), (1, .inl v), (2, .inl w)], [], H)) (C := []) rfl trivial ?_
    refine mw_sub (L' := [(5, .inl w), (7, .inl (0 : Int32)), (0, .inr (.inr (some m))), (1, .inl v), (2, .inl w), (3, .inl (rw_get H (m + 19) 4 (gi_sz H (m + 19)) v 2)), (4, .inl (rw_get H (m + 19) 4 (gi_sz H (m + 19)) v 3)), (6, .inl (rw_get H (m + 19) 4 (gi_sz H (m + 19)) v 0))]) (by simp) ?_
    refine mw_down (α := Int32 × Int32) (fun zs => (46, [(5, .inl zs.1), (7, .inl zs.2), (0, .inr (.inr (some m))), (1, .inl v), (2, .inl w), (3, .inl (rw_get H (m + 19) 4 (gi_sz H (m + 19)) v 2)), (4, .inl (rw_get H (m + 19) 4 (gi_sz H (m + 19)) v 3)), (6, .inl (rw_get H (m + 19) 4 (gi_sz H (m + 19)) v 0))], [], H)) (fun zs => (2147483647 - zs.2.toInt).toNat) (fun zs => (True)) (fun zs hs ih => ?_) (w, (0 : Int32)) (show True from trivial)
    obtain ⟨x, y⟩ := zs
    have hT := hs
    have hT : True := hT
    show mu_W _ _ (46, [(5, .inl x), (7, .inl y), (0, .inr (.inr (some m))), (1, .inl v), (2, .inl w), (3, .inl (rw_get H (m + 19) 4 (gi_sz H (m + 19)) v 2)), (4, .inl (rw_get H (m + 19) 4 (gi_sz H (m + 19)) v 3)), (6, .inl (rw_get H (m + 19) 4 (gi_sz H (m + 19)) v 0))], [], H) _
    refine mw_go mu_g125 (k := 3) (f1 := (52, [(5, .inl x), (7, .inl y), (0, .inr (.inr (some m))), (1, .inl v), (2, .inl w), (3, .inl (rw_get H (m + 19) 4 (gi_sz H (m + 19)) v 2)), (4, .inl (rw_get H (m + 19) 4 (gi_sz H (m + 19)) v 3)), (6, .inl (rw_get H (m + 19) 4 (gi_sz H (m + 19)) v 0))], [.inr (.inr (mu_r H m 9)), .inl y], H)) (C := [mu_is H (some m) 6]) rfl (show mu_is H (some m) 6 from gi_im hg hm) ?_
    rw [(show mu_r H m 9 = some (m + 19) from (gi_mr hg hm (j := 9) (by decide)).trans (congrArg some (by omega)))]
    refine mw_go mu_g125 (k := 2) (f1 := (54, [(5, .inl x), (7, .inl y), (0, .inr (.inr (some m))), (1, .inl v), (2, .inl w), (3, .inl (rw_get H (m + 19) 4 (gi_sz H (m + 19)) v 2)), (4, .inl (rw_get H (m + 19) 4 (gi_sz H (m + 19)) v 3)), (6, .inl (rw_get H (m + 19) 4 (gi_sz H (m + 19)) v 0))], [.inl (1 : Int32), .inl v, .inr (.inr (some (m + 19))), .inl y], H)) (C := []) rfl trivial ?_
    refine mw_cIe (fun _ => rfl) (show mu_is H (some (m + 19)) 10 from (hg.w (md_w9 hm)).1) (gi_get_ok (d := d) hg (md_w9 hm) v (j := 1) (by decide)) ?_
    refine mw_go mu_g125 (k := 2) (f1 := (59, [(5, .inl x), (7, .inl y), (0, .inr (.inr (some m))), (1, .inl v), (2, .inl w), (3, .inl (rw_get H (m + 19) 4 (gi_sz H (m + 19)) v 2)), (4, .inl (rw_get H (m + 19) 4 (gi_sz H (m + 19)) v 3)), (6, .inl (rw_get H (m + 19) 4 (gi_sz H (m + 19)) v 0))], [.inl ((rw_get H (m + 19) 4 (gi_sz H (m + 19)) v 1) - (1 : Int32)), .inl y], H)) (C := []) rfl trivial ?_
    refine mw_if (P := y < ((rw_get H (m + 19) 4 (gi_sz H (m + 19)) v 1) - (1 : Int32))) (a := 62) (b := 102) (fun _ => rfl) trivial (fun h6 => ?_) (fun h6 => ?_)
    · -- 62: y < ((rw_get H (m + 19) 4 (gi_sz H (m + 19)) v 1) - (1 : Int32))
      have hup := i32_up h6
      refine mw_go mu_g125 (k := 2) (f1 := (66, [(5, .inl x), (7, .inl y), (0, .inr (.inr (some m))), (1, .inl v), (2, .inl w), (3, .inl (rw_get H (m + 19) 4 (gi_sz H (m + 19)) v 2)), (4, .inl (rw_get H (m + 19) 4 (gi_sz H (m + 19)) v 3)), (6, .inl (rw_get H (m + 19) 4 (gi_sz H (m + 19)) v 0))], [.inr (.inr (mu_r H m 12))], H)) (C := [mu_is H (some m) 6]) rfl (show mu_is H (some m) 6 from gi_im hg hm) ?_
      rw [(show mu_r H m 12 = some (m + 25) from (gi_mr hg hm (j := 12) (by decide)).trans (congrArg some (by omega)))]
      refine mw_go mu_g125 (k := 2) (f1 := (70, [(5, .inl x), (7, .inl y), (0, .inr (.inr (some m))), (1, .inl v), (2, .inl w), (3, .inl (rw_get H (m + 19) 4 (gi_sz H (m + 19)) v 2)), (4, .inl (rw_get H (m + 19) 4 (gi_sz H (m + 19)) v 3)), (6, .inl (rw_get H (m + 19) 4 (gi_sz H (m + 19)) v 0))], [.inr (.inr (mu_r H m 11)), .inr (.inr (some (m + 25)))], H)) (C := [mu_is H (some m) 6]) rfl (show mu_is H (some m) 6 from gi_im hg hm) ?_
      rw [(show mu_r H m 11 = some (m + 23) from (gi_mr hg hm (j := 11) (by decide)).trans (congrArg some (by omega)))]
      refine mw_go mu_g125 (k := 2) (f1 := (73, [(5, .inl x), (7, .inl y), (0, .inr (.inr (some m))), (1, .inl v), (2, .inl w), (3, .inl (rw_get H (m + 19) 4 (gi_sz H (m + 19)) v 2)), (4, .inl (rw_get H (m + 19) 4 (gi_sz H (m + 19)) v 3)), (6, .inl (rw_get H (m + 19) 4 (gi_sz H (m + 19)) v 0))], [.inl (1 : Int32), .inl x, .inr (.inr (some (m + 23))), .inr (.inr (some (m + 25)))], H)) (C := []) rfl trivial ?_
      refine mw_cIe (fun _ => rfl) (show mu_is H (some (m + 23)) 10 from (hg.w (md_w11 hm)).1) (gi_get_ok (d := d) hg (md_w11 hm) x (j := 1) (by decide)) ?_
      refine mw_go mu_g125 (k := 2) (f1 := (80, [(5, .inl x), (7, .inl y), (0, .inr (.inr (some m))), (1, .inl v), (2, .inl w), (3, .inl (rw_get H (m + 19) 4 (gi_sz H (m + 19)) v 2)), (4, .inl (rw_get H (m + 19) 4 (gi_sz H (m + 19)) v 3)), (6, .inl (rw_get H (m + 19) 4 (gi_sz H (m + 19)) v 0))], [.inr (.inr (mu_r H m 10)), .inl (rw_get H (m + 23) 4 (gi_sz H (m + 23)) x 1), .inr (.inr (some (m + 25)))], H)) (C := [mu_is H (some m) 6]) rfl (show mu_is H (some m) 6 from gi_im hg hm) ?_
      rw [(show mu_r H m 10 = some (m + 21) from (gi_mr hg hm (j := 10) (by decide)).trans (congrArg some (by omega)))]
      refine mw_go mu_g125 (k := 4) (f1 := (86, [(5, .inl x), (7, .inl y), (0, .inr (.inr (some m))), (1, .inl v), (2, .inl w), (3, .inl (rw_get H (m + 19) 4 (gi_sz H (m + 19)) v 2)), (4, .inl (rw_get H (m + 19) 4 (gi_sz H (m + 19)) v 3)), (6, .inl (rw_get H (m + 19) 4 (gi_sz H (m + 19)) v 0))], [.inl (0 : Int32), .inl ((rw_get H (m + 19) 4 (gi_sz H (m + 19)) v 0) + y), .inr (.inr (some (m + 21))), .inl (rw_get H (m + 23) 4 (gi_sz H (m + 23)) x 1), .inr (.inr (some (m + 25)))], H)) (C := []) rfl trivial ?_
      refine mw_cIe (fun _ => rfl) (show mu_is H (some (m + 21)) 10 from (hg.w (md_w10 hm)).1) (gi_get_ok (d := d) hg (md_w10 hm) ((rw_get H (m + 19) 4 (gi_sz H (m + 19)) v 0) + y) (j := 0) (by decide)) ?_
      refine mw_go mu_g125 (k := 2) (f1 := (91, [(5, .inl x), (7, .inl y), (0, .inr (.inr (some m))), (1, .inl v), (2, .inl w), (3, .inl (rw_get H (m + 19) 4 (gi_sz H (m + 19)) v 2)), (4, .inl (rw_get H (m + 19) 4 (gi_sz H (m + 19)) v 3)), (6, .inl (rw_get H (m + 19) 4 (gi_sz H (m + 19)) v 0))], [.inl (0 : Int32), .inl ((rw_get H (m + 23) 4 (gi_sz H (m + 23)) x 1) + (rw_get H (m + 21) 1 (gi_sz H (m + 21)) ((rw_get H (m + 19) 4 (gi_sz H (m + 19)) v 0) + y) 0)), .inr (.inr (some (m + 25)))], H)) (C := []) rfl trivial ?_
      refine mw_cIe (fun _ => rfl) (show mu_is H (some (m + 25)) 10 from (hg.w (md_w12 hm)).1) (gi_get_ok (d := d) hg (md_w12 hm) ((rw_get H (m + 23) 4 (gi_sz H (m + 23)) x 1) + (rw_get H (m + 21) 1 (gi_sz H (m + 21)) ((rw_get H (m + 19) 4 (gi_sz H (m + 19)) v 0) + y) 0)) (j := 0) (by decide)) ?_
      refine mw_go mu_g125 (k := 3) (f1 := (46, [(7, .inl (y + 1)), (5, .inl (rw_get H (m + 25) 1 (gi_sz H (m + 25)) ((rw_get H (m + 23) 4 (gi_sz H (m + 23)) x 1) + (rw_get H (m + 21) 1 (gi_sz H (m + 21)) ((rw_get H (m + 19) 4 (gi_sz H (m + 19)) v 0) + y) 0)) 0)), (0, .inr (.inr (some m))), (1, .inl v), (2, .inl w), (3, .inl (rw_get H (m + 19) 4 (gi_sz H (m + 19)) v 2)), (4, .inl (rw_get H (m + 19) 4 (gi_sz H (m + 19)) v 3)), (6, .inl (rw_get H (m + 19) 4 (gi_sz H (m + 19)) v 0))], [], H)) (C := []) rfl trivial ?_
      exact mw_sub (by simp) (ih ((rw_get H (m + 25) 1 (gi_sz H (m + 25)) ((rw_get H (m + 23) 4 (gi_sz H (m + 23)) x 1) + (rw_get H (m + 21) 1 (gi_sz H (m + 21)) ((rw_get H (m + 19) 4 (gi_sz H (m + 19)) v 0) + y) 0)) 0), (y + 1)) (show True from trivial) (by show (2147483647 - (y + 1).toInt).toNat < (2147483647 - y.toInt).toNat; omega))
    · -- 102: not y < ((rw_get H (m + 19) 4 (gi_sz H (m + 19)) v 1) - (1 : Int32))
      refine mw_go mu_g125 (k := 2) (f1 := (104, [(5, .inl x), (7, .inl y), (0, .inr (.inr (some m))), (1, .inl v), (2, .inl w), (3, .inl (rw_get H (m + 19) 4 (gi_sz H (m + 19)) v 2)), (4, .inl (rw_get H (m + 19) 4 (gi_sz H (m + 19)) v 3)), (6, .inl (rw_get H (m + 19) 4 (gi_sz H (m + 19)) v 0))], [.inl (3 : Int32), .inl (rw_get H (m + 19) 4 (gi_sz H (m + 19)) v 2)], H)) (C := []) rfl trivial ?_
      refine mw_if (P := (rw_get H (m + 19) 4 (gi_sz H (m + 19)) v 2) = (3 : Int32)) (a := 107) (b := 129) (fun _ => rfl) trivial (fun h10 => ?_) (fun h10 => ?_)
      · -- 107: (rw_get H (m + 19) 4 (gi_sz H (m + 19)) v 2) = (3 : Int32)
        refine mw_go mu_g125 (k := 2) (f1 := (111, [(5, .inl x), (7, .inl y), (0, .inr (.inr (some m))), (1, .inl v), (2, .inl w), (3, .inl (rw_get H (m + 19) 4 (gi_sz H (m + 19)) v 2)), (4, .inl (rw_get H (m + 19) 4 (gi_sz H (m + 19)) v 3)), (6, .inl (rw_get H (m + 19) 4 (gi_sz H (m + 19)) v 0))], [.inr (.inr (mu_r H m 12))], H)) (C := [mu_is H (some m) 6]) rfl (show mu_is H (some m) 6 from gi_im hg hm) ?_
        rw [(show mu_r H m 12 = some (m + 25) from (gi_mr hg hm (j := 12) (by decide)).trans (congrArg some (by omega)))]
        refine mw_go mu_g125 (k := 2) (f1 := (115, [(5, .inl x), (7, .inl y), (0, .inr (.inr (some m))), (1, .inl v), (2, .inl w), (3, .inl (rw_get H (m + 19) 4 (gi_sz H (m + 19)) v 2)), (4, .inl (rw_get H (m + 19) 4 (gi_sz H (m + 19)) v 3)), (6, .inl (rw_get H (m + 19) 4 (gi_sz H (m + 19)) v 0))], [.inr (.inr (mu_r H m 11)), .inr (.inr (some (m + 25)))], H)) (C := [mu_is H (some m) 6]) rfl (show mu_is H (some m) 6 from gi_im hg hm) ?_
        rw [(show mu_r H m 11 = some (m + 23) from (gi_mr hg hm (j := 11) (by decide)).trans (congrArg some (by omega)))]
        refine mw_go mu_g125 (k := 2) (f1 := (118, [(5, .inl x), (7, .inl y), (0, .inr (.inr (some m))), (1, .inl v), (2, .inl w), (3, .inl (rw_get H (m + 19) 4 (gi_sz H (m + 19)) v 2)), (4, .inl (rw_get H (m + 19) 4 (gi_sz H (m + 19)) v 3)), (6, .inl (rw_get H (m + 19) 4 (gi_sz H (m + 19)) v 0))], [.inl (1 : Int32), .inl x, .inr (.inr (some (m + 23))), .inr (.inr (some (m + 25)))], H)) (C := []) rfl trivial ?_
        refine mw_cIe (fun _ => rfl) (show mu_is H (some (m + 23)) 10 from (hg.w (md_w11 hm)).1) (gi_get_ok (d := d) hg (md_w11 hm) x (j := 1) (by decide)) ?_
        refine mw_go mu_g125 (k := 3) (f1 := (125, [(5, .inl x), (7, .inl y), (0, .inr (.inr (some m))), (1, .inl v), (2, .inl w), (3, .inl (rw_get H (m + 19) 4 (gi_sz H (m + 19)) v 2)), (4, .inl (rw_get H (m + 19) 4 (gi_sz H (m + 19)) v 3)), (6, .inl (rw_get H (m + 19) 4 (gi_sz H (m + 19)) v 0))], [.inl (0 : Int32), .inl ((rw_get H (m + 23) 4 (gi_sz H (m + 23)) x 1) + (rw_get H (m + 19) 4 (gi_sz H (m + 19)) v 3)), .inr (.inr (some (m + 25)))], H)) (C := []) rfl trivial ?_
        refine mw_cIe (fun _ => rfl) (show mu_is H (some (m + 25)) 10 from (hg.w (md_w12 hm)).1) (gi_get_ok (d := d) hg (md_w12 hm) ((rw_get H (m + 23) 4 (gi_sz H (m + 23)) x 1) + (rw_get H (m + 19) 4 (gi_sz H (m + 19)) v 3)) (j := 0) (by decide)) ?_
        exact mw_of (fun _ => mu_ret rfl trivial ⟨_, _, rfl, rfl⟩)
      · -- 129: not (rw_get H (m + 19) 4 (gi_sz H (m + 19)) v 2) = (3 : Int32)
        refine mw_go mu_g125 (k := 2) (f1 := (133, [(5, .inl x), (7, .inl y), (0, .inr (.inr (some m))), (1, .inl v), (2, .inl w), (3, .inl (rw_get H (m + 19) 4 (gi_sz H (m + 19)) v 2)), (4, .inl (rw_get H (m + 19) 4 (gi_sz H (m + 19)) v 3)), (6, .inl (rw_get H (m + 19) 4 (gi_sz H (m + 19)) v 0))], [.inr (.inr (mu_r H m 11))], H)) (C := [mu_is H (some m) 6]) rfl (show mu_is H (some m) 6 from gi_im hg hm) ?_
        rw [(show mu_r H m 11 = some (m + 23) from (gi_mr hg hm (j := 11) (by decide)).trans (congrArg some (by omega)))]
        refine mw_go mu_g125 (k := 2) (f1 := (136, [(5, .inl x), (7, .inl y), (0, .inr (.inr (some m))), (1, .inl v), (2, .inl w), (3, .inl (rw_get H (m + 19) 4 (gi_sz H (m + 19)) v 2)), (4, .inl (rw_get H (m + 19) 4 (gi_sz H (m + 19)) v 3)), (6, .inl (rw_get H (m + 19) 4 (gi_sz H (m + 19)) v 0))], [.inl (2 : Int32), .inl x, .inr (.inr (some (m + 23)))], H)) (C := []) rfl trivial ?_
        refine mw_cIe (fun _ => rfl) (show mu_is H (some (m + 23)) 10 from (hg.w (md_w11 hm)).1) (gi_get_ok (d := d) hg (md_w11 hm) x (j := 2) (by decide)) ?_
        refine mw_go mu_g125 (k := 5) (f1 := (146, [(7, .inl ((rw_get H (m + 23) 4 (gi_sz H (m + 23)) x 2) + (rw_get H (m + 19) 4 (gi_sz H (m + 19)) v 3))), (5, .inl x), (0, .inr (.inr (some m))), (1, .inl v), (2, .inl w), (3, .inl (rw_get H (m + 19) 4 (gi_sz H (m + 19)) v 2)), (4, .inl (rw_get H (m + 19) 4 (gi_sz H (m + 19)) v 3)), (6, .inl (rw_get H (m + 19) 4 (gi_sz H (m + 19)) v 0))], [.inl (1 : Int32), .inl (rw_get H (m + 19) 4 (gi_sz H (m + 19)) v 2)], H)) (C := []) rfl trivial ?_
        refine mw_if (P := (rw_get H (m + 19) 4 (gi_sz H (m + 19)) v 2) = (1 : Int32)) (a := 149) (b := 154) (fun _ => rfl) trivial (fun h14 => ?_) (fun h14 => ?_)
        · -- 149: (rw_get H (m + 19) 4 (gi_sz H (m + 19)) v 2) = (1 : Int32)
          refine mw_go mu_g125 (k := 2) (f1 := (167, [(7, .inl ((rw_get H (m + 23) 4 (gi_sz H (m + 23)) x 2) + (rw_get H (m + 19) 4 (gi_sz H (m + 19)) v 3))), (5, .inl x), (0, .inr (.inr (some m))), (1, .inl v), (2, .inl w), (3, .inl (rw_get H (m + 19) 4 (gi_sz H (m + 19)) v 2)), (4, .inl (rw_get H (m + 19) 4 (gi_sz H (m + 19)) v 3)), (6, .inl (rw_get H (m + 19) 4 (gi_sz H (m + 19)) v 0))], [.inl ((rw_get H (m + 23) 4 (gi_sz H (m + 23)) x 2) + (rw_get H (m + 19) 4 (gi_sz H (m + 19)) v 3))], H)) (C := []) rfl trivial ?_
          exact mw_of (fun _ => mu_ret rfl trivial ⟨_, _, rfl, rfl⟩)
        · -- 154: not (rw_get H (m + 19) 4 (gi_sz H (m + 19)) v 2) = (1 : Int32)
          refine mw_go mu_g125 (k := 3) (f1 := (160, [(7, .inl ((rw_get H (m + 23) 4 (gi_sz H (m + 23)) x 2) + (rw_get H (m + 19) 4 (gi_sz H (m + 19)) v 3))), (5, .inl x), (0, .inr (.inr (some m))), (1, .inl v), (2, .inl w), (3, .inl (rw_get H (m + 19) 4 (gi_sz H (m + 19)) v 2)), (4, .inl (rw_get H (m + 19) 4 (gi_sz H (m + 19)) v 3)), (6, .inl (rw_get H (m + 19) 4 (gi_sz H (m + 19)) v 0))], [.inr (.inr (mu_r H m 11)), .inl ((rw_get H (m + 23) 4 (gi_sz H (m + 23)) x 2) + (rw_get H (m + 19) 4 (gi_sz H (m + 19)) v 3))], H)) (C := [mu_is H (some m) 6]) rfl (show mu_is H (some m) 6 from gi_im hg hm) ?_
          rw [(show mu_r H m 11 = some (m + 23) from (gi_mr hg hm (j := 11) (by decide)).trans (congrArg some (by omega)))]
          refine mw_go mu_g125 (k := 2) (f1 := (163, [(7, .inl ((rw_get H (m + 23) 4 (gi_sz H (m + 23)) x 2) + (rw_get H (m + 19) 4 (gi_sz H (m + 19)) v 3))), (5, .inl x), (0, .inr (.inr (some m))), (1, .inl v), (2, .inl w), (3, .inl (rw_get H (m + 19) 4 (gi_sz H (m + 19)) v 2)), (4, .inl (rw_get H (m + 19) 4 (gi_sz H (m + 19)) v 3)), (6, .inl (rw_get H (m + 19) 4 (gi_sz H (m + 19)) v 0))], [.inl (3 : Int32), .inl x, .inr (.inr (some (m + 23))), .inl ((rw_get H (m + 23) 4 (gi_sz H (m + 23)) x 2) + (rw_get H (m + 19) 4 (gi_sz H (m + 19)) v 3))], H)) (C := []) rfl trivial ?_
          refine mw_cIe (fun _ => rfl) (show mu_is H (some (m + 23)) 10 from (hg.w (md_w11 hm)).1) (gi_get_ok (d := d) hg (md_w11 hm) x (j := 3) (by decide)) ?_
          refine mw_go mu_g125 (k := 1) (f1 := (167, [(7, .inl ((rw_get H (m + 23) 4 (gi_sz H (m + 23)) x 2) + (rw_get H (m + 19) 4 (gi_sz H (m + 19)) v 3))), (5, .inl x), (0, .inr (.inr (some m))), (1, .inl v), (2, .inl w), (3, .inl (rw_get H (m + 19) 4 (gi_sz H (m + 19)) v 2)), (4, .inl (rw_get H (m + 19) 4 (gi_sz H (m + 19)) v 3)), (6, .inl (rw_get H (m + 19) 4 (gi_sz H (m + 19)) v 0))], [.inl (((rw_get H (m + 23) 4 (gi_sz H (m + 23)) x 2) + (rw_get H (m + 19) 4 (gi_sz H (m + 19)) v 3)) + (rw_get H (m + 23) 4 (gi_sz H (m + 23)) x 3))], H)) (C := []) rfl trivial ?_
          exact mw_of (fun _ => mu_ret rfl trivial ⟨_, _, rfl, rfl⟩)
/-- PathProver$Sound.hashOf(II)I -/
abbrev mu_m177 : ev_M := (4, (some .int), [], ev_b177)
theorem mu_g177 : mu_good mu_m177 := mu_goodk ev_k177
theorem so_hash (hg : gi H) (v w : Int32) : mu_TI (mu_D (d + 1)) 177 [.inr (.inr (some 92)), .inl v, .inl w] H (fun x H1 => H = H1 ∧ ∃ k, k < 512 ∧ x = nI k) := by
  refine mu_meth (M := mu_m177) rfl rfl ?_
  refine mw_ht (mu_fn_of (show [0, 1, 2].Nodup by decide)) ?_
  refine mw_go mu_g177 (k := 15) (f1 := (21, [(3, .inl ((v * (7919 : Int32)) + (w * (31 : Int32)))), (0, .inr (.inr (some 92))), (1, .inl v), (2, .inl w)], [.inl ((((v * (7919 : Int32)) + (w * (31 : Int32))) ^^^ ((((v * (7919 : Int32)) + (w * (31 : Int32))).toUInt32 >>> ((9 : Int32).toUInt32 &&& Int32.toUInt32 31)).toInt32)) &&& (511 : Int32))], H)) (C := []) rfl trivial ?_
  obtain ⟨j, h1, h2⟩ := pk_andE _ (m := 511) 9 rfl
  exact mw_of (fun _ => mu_ret rfl trivial ⟨_, _, rfl, rfl, j, h1, h2⟩)
/-- PathProver$Sound.find(II)I -/
abbrev mu_m174 : ev_M := (5, (some .int), [], ev_b174)
theorem mu_g174 : mu_good mu_m174 := mu_goodk ev_k174
/-- PathProver$Sound.kindOf(I)I -/
abbrev mu_m175 : ev_M := (2, (some .int), [], ev_b175)
theorem mu_g175 : mu_good mu_m175 := mu_goodk ev_k175
/-- PathProver$Sound.rowOf(I)I -/
abbrev mu_m176 : ev_M := (2, (some .int), [], ev_b176)
theorem mu_g176 : mu_good mu_m176 := mu_goodk ev_k176
/-- PathProver$Judge.namedAt(II)I -/
abbrev mu_m199 : ev_M := (5, (some .int), [], ev_b199)
theorem mu_g199 : mu_good mu_m199 := mu_goodk ev_k199
theorem jg_named (hg : gi H) (hm : m = 2 ∨ m = 41) (hj3 : mu_r H 91 3 = some m) (v w : Int32) : mu_TI (mu_D (d + 3)) 199 [.inr (.inr (some 91)), .inl v, .inl w] H (fun x H1 => H = H1) := by
  refine mu_meth (M := mu_m199) rfl rfl ?_
  refine mw_ht (mu_fn_of (show [0, 1, 2].Nodup by decide)) ?_
  refine mw_go mu_g199 (k := 2) (f1 := (4, [(0, .inr (.inr (some 91))), (1, .inl v), (2, .inl w)], [.inr (.inr (mu_r H 91 3))], H)) (C := [mu_is H (some 91) 3]) rfl (show mu_is H (some 91) 3 from hg.is rfl) ?_
  rw [hj3]
  refine mw_go mu_g199 (k := 1) (f1 := (7, [(0, .inr (.inr (some 91))), (1, .inl v), (2, .inl w)], [.inr (.inr (mu_r H m 0))], H)) (C := [mu_is H (some m) 6]) rfl (show mu_is H (some m) 6 from gi_im hg hm) ?_
  rw [(show mu_r H m 0 = some (m + 1) from (gi_mr hg hm (j := 0) (by decide)).trans (congrArg some (by omega)))]
  refine mw_go mu_g199 (k := 2) (f1 := (9, [(0, .inr (.inr (some 91))), (1, .inl v), (2, .inl w)], [.inl (1 : Int32), .inl v, .inr (.inr (some (m + 1)))], H)) (C := []) rfl trivial ?_
  refine mw_cIe (fun _ => rfl) (show mu_is H (some (m + 1)) 10 from (hg.w (md_w0 hm)).1) (gi_get_ok (d := (d + 1)) hg (md_w0 hm) v (j := 1) (by decide)) ?_
  refine mw_go mu_g199 (k := 3) (f1 := (17, [(3, .inl (rw_get H (m + 1) 2 (gi_sz H (m + 1)) v 1)), (0, .inr (.inr (some 91))), (1, .inl v), (2, .inl w)], [.inr (.inr (mu_r H 91 3))], H)) (C := [mu_is H (some 91) 3]) rfl (show mu_is H (some 91) 3 from hg.is rfl) ?_
  rw [hj3]
  refine mw_go mu_g199 (k := 1) (f1 := (20, [(3, .inl (rw_get H (m + 1) 2 (gi_sz H (m + 1)) v 1)), (0, .inr (.inr (some 91))), (1, .inl v), (2, .inl w)], [.inr (.inr (mu_r H m 0))], H)) (C := [mu_is H (some m) 6]) rfl (show mu_is H (some m) 6 from gi_im hg hm) ?_
  rw [(show mu_r H m 0 = some (m + 1) from (gi_mr hg hm (j := 0) (by decide)).trans (congrArg some (by omega)))]
  refine mw_go mu_g199 (k := 2) (f1 := (22, [(3, .inl (rw_get H (m + 1) 2 (gi_sz H (m + 1)) v 1)), (0, .inr (.inr (some 91))), (1, .inl v), (2, .inl w)], [.inl (0 : Int32), .inl v, .inr (.inr (some (m + 1)))], H)) (C := []) rfl trivial ?_
  refine mw_cIe (fun _ => rfl) (show mu_is H (some (m + 1)) 10 from (hg.w (md_w0 hm)).1) (gi_get_ok (d := (d + 1)) hg (md_w0 hm) v (j := 0) (by decide)) ?_
  refine mw_go mu_g199 (k := 1) (f1 := (26, [(3, .inl (rw_get H (m + 1) 2 (gi_sz H (m + 1)) v 1)), (0, .inr (.inr (some 91))), (1, .inl v), (2, .inl w)], [.inl (2 : Int32), .inl (rw_get H (m + 1) 2 (gi_sz H (m + 1)) v 0)], H)) (C := []) rfl trivial ?_
  refine mw_if (P := (rw_get H (m + 1) 2 (gi_sz H (m + 1)) v 0) = (2 : Int32)) (a := 47) (b := 29) (fun _ => rfl) trivial (fun h3 => ?_) (fun h3 => ?_)
  · -- 47: (rw_get H (m + 1) 2 (gi_sz H (m + 1)) v 0) = (2 : Int32)
    refine mw_go mu_g199 (k := 2) (f1 := (51, [(3, .inl (rw_get H (m + 1) 2 (gi_sz H (m + 1)) v 1)), (0, .inr (.inr (some 91))), (1, .inl v), (2, .inl w)], [.inr (.inr (mu_r H 91 3))], H)) (C := [mu_is H (some 91) 3]) rfl (show mu_is H (some 91) 3 from hg.is rfl) ?_
    rw [hj3]
    refine mw_go mu_g199 (k := 1) (f1 := (54, [(3, .inl (rw_get H (m + 1) 2 (gi_sz H (m + 1)) v 1)), (0, .inr (.inr (some 91))), (1, .inl v), (2, .inl w)], [.inr (.inr (mu_r H m 9))], H)) (C := [mu_is H (some m) 6]) rfl (show mu_is H (some m) 6 from gi_im hg hm) ?_
    rw [(show mu_r H m 9 = some (m + 19) from (gi_mr hg hm (j := 9) (by decide)).trans (congrArg some (by omega)))]
    refine mw_go mu_g199 (k := 2) (f1 := (56, [(3, .inl (rw_get H (m + 1) 2 (gi_sz H (m + 1)) v 1)), (0, .inr (.inr (some 91))), (1, .inl v), (2, .inl w)], [.inl (2 : Int32), .inl (rw_get H (m + 1) 2 (gi_sz H (m + 1)) v 1), .inr (.inr (some (m + 19)))], H)) (C := []) rfl trivial ?_
    refine mw_cIe (fun _ => rfl) (show mu_is H (some (m + 19)) 10 from (hg.w (md_w9 hm)).1) (gi_get_ok (d := (d + 1)) hg (md_w9 hm) (rw_get H (m + 1) 2 (gi_sz H (m + 1)) v 1) (j := 2) (by decide)) ?_
    refine mw_go mu_g199 (k := 3) (f1 := (64, [(4, .inl (rw_get H (m + 19) 4 (gi_sz H (m + 19)) (rw_get H (m + 1) 2 (gi_sz H (m + 1)) v 1) 2)), (3, .inl (rw_get H (m + 1) 2 (gi_sz H (m + 1)) v 1)), (0, .inr (.inr (some 91))), (1, .inl v), (2, .inl w)], [.inl (1 : Int32), .inl (rw_get H (m + 19) 4 (gi_sz H (m + 19)) (rw_get H (m + 1) 2 (gi_sz H (m + 1)) v 1) 2)], H)) (C := []) rfl trivial ?_
    refine mw_if (P := (rw_get H (m + 19) 4 (gi_sz H (m + 19)) (rw_get H (m + 1) 2 (gi_sz H (m + 1)) v 1) 2) = (1 : Int32)) (a := 73) (b := 67) (fun _ => rfl) trivial (fun h5 => ?_) (fun h5 => ?_)
    · -- 73: (rw_get H (m + 19) 4 (gi_sz H (m + 19)) (rw_get H (m + 1) 2 (gi_sz H (m + 1)) v 1) 2) = (1 : Int32)
      refine mw_go mu_g199 (k := 2) (f1 := (77, [(4, .inl (rw_get H (m + 19) 4 (gi_sz H (m + 19)) (rw_get H (m + 1) 2 (gi_sz H (m + 1)) v 1) 2)), (3, .inl (rw_get H (m + 1) 2 (gi_sz H (m + 1)) v 1)), (0, .inr (.inr (some 91))), (1, .inl v), (2, .inl w)], [.inr (.inr (mu_r H 91 3))], H)) (C := [mu_is H (some 91) 3]) rfl (show mu_is H (some 91) 3 from hg.is rfl) ?_
      rw [hj3]
      refine mw_go mu_g199 (k := 2) (f1 := (79, [(4, .inl (rw_get H (m + 19) 4 (gi_sz H (m + 19)) (rw_get H (m + 1) 2 (gi_sz H (m + 1)) v 1) 2)), (3, .inl (rw_get H (m + 1) 2 (gi_sz H (m + 1)) v 1)), (0, .inr (.inr (some 91))), (1, .inl v), (2, .inl w)], [.inl w, .inl (rw_get H (m + 1) 2 (gi_sz H (m + 1)) v 1), .inr (.inr (some m))], H)) (C := []) rfl trivial ?_
      refine mw_cI (fun _ => rfl) (show mu_is H (some m) 6 from gi_im hg hm) (md_reach (d := d) hg hm (rw_get H (m + 1) 2 (gi_sz H (m + 1)) v 1) w) (fun x6 H6 q6 => ?_)
      obtain rfl := q6
      refine mw_go mu_g199 (k := 1) (f1 := (86, [(4, .inl (rw_get H (m + 19) 4 (gi_sz H (m + 19)) (rw_get H (m + 1) 2 (gi_sz H (m + 1)) v 1) 2)), (3, .inl (rw_get H (m + 1) 2 (gi_sz H (m + 1)) v 1)), (0, .inr (.inr (some 91))), (1, .inl v), (2, .inl w)], [.inl x6], H)) (C := []) rfl trivial ?_
      exact mw_of (fun _ => mu_ret rfl trivial ⟨_, _, rfl, rfl⟩)
    · -- 67: not (rw_get H (m + 19) 4 (gi_sz H (m + 19)) (rw_get H (m + 1) 2 (gi_sz H (m + 1)) v 1) 2) = (1 : Int32)
      refine mw_go mu_g199 (k := 2) (f1 := (70, [(4, .inl (rw_get H (m + 19) 4 (gi_sz H (m + 19)) (rw_get H (m + 1) 2 (gi_sz H (m + 1)) v 1) 2)), (3, .inl (rw_get H (m + 1) 2 (gi_sz H (m + 1)) v 1)), (0, .inr (.inr (some 91))), (1, .inl v), (2, .inl w)], [.inl (2 : Int32), .inl (rw_get H (m + 19) 4 (gi_sz H (m + 19)) (rw_get H (m + 1) 2 (gi_sz H (m + 1)) v 1) 2)], H)) (C := []) rfl trivial ?_
      refine mw_if (P := (rw_get H (m + 19) 4 (gi_sz H (m + 19)) (rw_get H (m + 1) 2 (gi_sz H (m + 1)) v 1) 2) = (2 : Int32)) (a := 73) (b := 85) (fun _ => rfl) trivial (fun h7 => ?_) (fun h7 => ?_)
      · -- 73: (rw_get H (m + 19) 4 (gi_sz H (m + 19)) (rw_get H (m + 1) 2 (gi_sz H (m + 1)) v 1) 2) = (2 : Int32)
        refine mw_go mu_g199 (k := 2) (f1 := (77, [(4, .inl (rw_get H (m + 19) 4 (gi_sz H (m + 19)) (rw_get H (m + 1) 2 (gi_sz H (m + 1)) v 1) 2)), (3, .inl (rw_get H (m + 1) 2 (gi_sz H (m + 1)) v 1)), (0, .inr (.inr (some 91))), (1, .inl v), (2, .inl w)], [.inr (.inr (mu_r H 91 3))], H)) (C := [mu_is H (some 91) 3]) rfl (show mu_is H (some 91) 3 from hg.is rfl) ?_
        rw [hj3]
        refine mw_go mu_g199 (k := 2) (f1 := (79, [(4, .inl (rw_get H (m + 19) 4 (gi_sz H (m + 19)) (rw_get H (m + 1) 2 (gi_sz H (m + 1)) v 1) 2)), (3, .inl (rw_get H (m + 1) 2 (gi_sz H (m + 1)) v 1)), (0, .inr (.inr (some 91))), (1, .inl v), (2, .inl w)], [.inl w, .inl (rw_get H (m + 1) 2 (gi_sz H (m + 1)) v 1), .inr (.inr (some m))], H)) (C := []) rfl trivial ?_
        refine mw_cI (fun _ => rfl) (show mu_is H (some m) 6 from gi_im hg hm) (md_reach (d := d) hg hm (rw_get H (m + 1) 2 (gi_sz H (m + 1)) v 1) w) (fun x8 H8 q8 => ?_)
        obtain rfl := q8
        refine mw_go mu_g199 (k := 1) (f1 := (86, [(4, .inl (rw_get H (m + 19) 4 (gi_sz H (m + 19)) (rw_get H (m + 1) 2 (gi_sz H (m + 1)) v 1) 2)), (3, .inl (rw_get H (m + 1) 2 (gi_sz H (m + 1)) v 1)), (0, .inr (.inr (some 91))), (1, .inl v), (2, .inl w)], [.inl x8], H)) (C := []) rfl trivial ?_
        exact mw_of (fun _ => mu_ret rfl trivial ⟨_, _, rfl, rfl⟩)
      · -- 85: not (rw_get H (m + 19) 4 (gi_sz H (m + 19)) (rw_get H (m + 1) 2 (gi_sz H (m + 1)) v 1) 2) = (2 : Int32)
        refine mw_go mu_g199 (k := 1) (f1 := (86, [(4, .inl (rw_get H (m + 19) 4 (gi_sz H (m + 19)) (rw_get H (m + 1) 2 (gi_sz H (m + 1)) v 1) 2)), (3, .inl (rw_get H (m + 1) 2 (gi_sz H (m + 1)) v 1)), (0, .inr (.inr (some 91))), (1, .inl v), (2, .inl w)], [.inl (-1 : Int32)], H)) (C := []) rfl trivial ?_
        exact mw_of (fun _ => mu_ret rfl trivial ⟨_, _, rfl, rfl⟩)
  · -- 29: not (rw_get H (m + 1) 2 (gi_sz H (m + 1)) v 0) = (2 : Int32)
    refine mw_go mu_g199 (k := 2) (f1 := (33, [(3, .inl (rw_get H (m + 1) 2 (gi_sz H (m + 1)) v 1)), (0, .inr (.inr (some 91))), (1, .inl v), (2, .inl w)], [.inr (.inr (mu_r H 91 3))], H)) (C := [mu_is H (some 91) 3]) rfl (show mu_is H (some 91) 3 from hg.is rfl) ?_
    rw [hj3]
    refine mw_go mu_g199 (k := 1) (f1 := (36, [(3, .inl (rw_get H (m + 1) 2 (gi_sz H (m + 1)) v 1)), (0, .inr (.inr (some 91))), (1, .inl v), (2, .inl w)], [.inr (.inr (mu_r H m 0))], H)) (C := [mu_is H (some m) 6]) rfl (show mu_is H (some m) 6 from gi_im hg hm) ?_
    rw [(show mu_r H m 0 = some (m + 1) from (gi_mr hg hm (j := 0) (by decide)).trans (congrArg some (by omega)))]
    refine mw_go mu_g199 (k := 2) (f1 := (38, [(3, .inl (rw_get H (m + 1) 2 (gi_sz H (m + 1)) v 1)), (0, .inr (.inr (some 91))), (1, .inl v), (2, .inl w)], [.inl (0 : Int32), .inl v, .inr (.inr (some (m + 1)))], H)) (C := []) rfl trivial ?_
    refine mw_cIe (fun _ => rfl) (show mu_is H (some (m + 1)) 10 from (hg.w (md_w0 hm)).1) (gi_get_ok (d := (d + 1)) hg (md_w0 hm) v (j := 0) (by decide)) ?_
    refine mw_go mu_g199 (k := 1) (f1 := (42, [(3, .inl (rw_get H (m + 1) 2 (gi_sz H (m + 1)) v 1)), (0, .inr (.inr (some 91))), (1, .inl v), (2, .inl w)], [.inl (3 : Int32), .inl (rw_get H (m + 1) 2 (gi_sz H (m + 1)) v 0)], H)) (C := []) rfl trivial ?_
    refine mw_if (P := (rw_get H (m + 1) 2 (gi_sz H (m + 1)) v 0) = (3 : Int32)) (a := 47) (b := 45) (fun _ => rfl) trivial (fun h10 => ?_) (fun h10 => ?_)
    · -- 47: (rw_get H (m + 1) 2 (gi_sz H (m + 1)) v 0) = (3 : Int32)
      refine mw_go mu_g199 (k := 2) (f1 := (51, [(3, .inl (rw_get H (m + 1) 2 (gi_sz H (m + 1)) v 1)), (0, .inr (.inr (some 91))), (1, .inl v), (2, .inl w)], [.inr (.inr (mu_r H 91 3))], H)) (C := [mu_is H (some 91) 3]) rfl (show mu_is H (some 91) 3 from hg.is rfl) ?_
      rw [hj3]
      refine mw_go mu_g199 (k := 1) (f1 := (54, [(3, .inl (rw_get H (m + 1) 2 (gi_sz H (m + 1)) v 1)), (0, .inr (.inr (some 91))), (1, .inl v), (2, .inl w)], [.inr (.inr (mu_r H m 9))], H)) (C := [mu_is H (some m) 6]) rfl (show mu_is H (some m) 6 from gi_im hg hm) ?_
      rw [(show mu_r H m 9 = some (m + 19) from (gi_mr hg hm (j := 9) (by decide)).trans (congrArg some (by omega)))]
      refine mw_go mu_g199 (k := 2) (f1 := (56, [(3, .inl (rw_get H (m + 1) 2 (gi_sz H (m + 1)) v 1)), (0, .inr (.inr (some 91))), (1, .inl v), (2, .inl w)], [.inl (2 : Int32), .inl (rw_get H (m + 1) 2 (gi_sz H (m + 1)) v 1), .inr (.inr (some (m + 19)))], H)) (C := []) rfl trivial ?_
      refine mw_cIe (fun _ => rfl) (show mu_is H (some (m + 19)) 10 from (hg.w (md_w9 hm)).1) (gi_get_ok (d := (d + 1)) hg (md_w9 hm) (rw_get H (m + 1) 2 (gi_sz H (m + 1)) v 1) (j := 2) (by decide)) ?_
      refine mw_go mu_g199 (k := 3) (f1 := (64, [(4, .inl (rw_get H (m + 19) 4 (gi_sz H (m + 19)) (rw_get H (m + 1) 2 (gi_sz H (m + 1)) v 1) 2)), (3, .inl (rw_get H (m + 1) 2 (gi_sz H (m + 1)) v 1)), (0, .inr (.inr (some 91))), (1, .inl v), (2, .inl w)], [.inl (1 : Int32), .inl (rw_get H (m + 19) 4 (gi_sz H (m + 19)) (rw_get H (m + 1) 2 (gi_sz H (m + 1)) v 1) 2)], H)) (C := []) rfl trivial ?_
      refine mw_if (P := (rw_get H (m + 19) 4 (gi_sz H (m + 19)) (rw_get H (m + 1) 2 (gi_sz H (m + 1)) v 1) 2) = (1 : Int32)) (a := 73) (b := 67) (fun _ => rfl) trivial (fun h12 => ?_) (fun h12 => ?_)
      · -- 73: (rw_get H (m + 19) 4 (gi_sz H (m + 19)) (rw_get H (m + 1) 2 (gi_sz H (m + 1)) v 1) 2) = (1 : Int32)
        refine mw_go mu_g199 (k := 2) (f1 := (77, [(4, .inl (rw_get H (m + 19) 4 (gi_sz H (m + 19)) (rw_get H (m + 1) 2 (gi_sz H (m + 1)) v 1) 2)), (3, .inl (rw_get H (m + 1) 2 (gi_sz H (m + 1)) v 1)), (0, .inr (.inr (some 91))), (1, .inl v), (2, .inl w)], [.inr (.inr (mu_r H 91 3))], H)) (C := [mu_is H (some 91) 3]) rfl (show mu_is H (some 91) 3 from hg.is rfl) ?_
        rw [hj3]
        refine mw_go mu_g199 (k := 2) (f1 := (79, [(4, .inl (rw_get H (m + 19) 4 (gi_sz H (m + 19)) (rw_get H (m + 1) 2 (gi_sz H (m + 1)) v 1) 2)), (3, .inl (rw_get H (m + 1) 2 (gi_sz H (m + 1)) v 1)), (0, .inr (.inr (some 91))), (1, .inl v), (2, .inl w)], [.inl w, .inl (rw_get H (m + 1) 2 (gi_sz H (m + 1)) v 1), .inr (.inr (some m))], H)) (C := []) rfl trivial ?_
        refine mw_cI (fun _ => rfl) (show mu_is H (some m) 6 from gi_im hg hm) (md_reach (d := d) hg hm (rw_get H (m + 1) 2 (gi_sz H (m + 1)) v 1) w) (fun x13 H13 q13 => ?_)
        obtain rfl := q13
        refine mw_go mu_g199 (k := 1) (f1 := (86, [(4, .inl (rw_get H (m + 19) 4 (gi_sz H (m + 19)) (rw_get H (m + 1) 2 (gi_sz H (m + 1)) v 1) 2)), (3, .inl (rw_get H (m + 1) 2 (gi_sz H (m + 1)) v 1)), (0, .inr (.inr (some 91))), (1, .inl v), (2, .inl w)], [.inl x13], H)) (C := []) rfl trivial ?_
        exact mw_of (fun _ => mu_ret rfl trivial ⟨_, _, rfl, rfl⟩)
      · -- 67: not (rw_get H (m + 19) 4 (gi_sz H (m + 19)) (rw_get H (m + 1) 2 (gi_sz H (m + 1)) v 1) 2) = (1 : Int32)
        refine mw_go mu_g199 (k := 2) (f1 := (70, [(4, .inl (rw_get H (m + 19) 4 (gi_sz H (m + 19)) (rw_get H (m + 1) 2 (gi_sz H (m + 1)) v 1) 2)), (3, .inl (rw_get H (m + 1) 2 (gi_sz H (m + 1)) v 1)), (0, .inr (.inr (some 91))), (1, .inl v), (2, .inl w)], [.inl (2 : Int32), .inl (rw_get H (m + 19) 4 (gi_sz H (m + 19)) (rw_get H (m + 1) 2 (gi_sz H (m + 1)) v 1) 2)], H)) (C := []) rfl trivial ?_
        refine mw_if (P := (rw_get H (m + 19) 4 (gi_sz H (m + 19)) (rw_get H (m + 1) 2 (gi_sz H (m + 1)) v 1) 2) = (2 : Int32)) (a := 73) (b := 85) (fun _ => rfl) trivial (fun h14 => ?_) (fun h14 => ?_)
        · -- 73: (rw_get H (m + 19) 4 (gi_sz H (m + 19)) (rw_get H (m + 1) 2 (gi_sz H (m + 1)) v 1) 2) = (2 : Int32)
          refine mw_go mu_g199 (k := 2) (f1 := (77, [(4, .inl (rw_get H (m + 19) 4 (gi_sz H (m + 19)) (rw_get H (m + 1) 2 (gi_sz H (m + 1)) v 1) 2)), (3, .inl (rw_get H (m + 1) 2 (gi_sz H (m + 1)) v 1)), (0, .inr (.inr (some 91))), (1, .inl v), (2, .inl w)], [.inr (.inr (mu_r H 91 3))], H)) (C := [mu_is H (some 91) 3]) rfl (show mu_is H (some 91) 3 from hg.is rfl) ?_
          rw [hj3]
          refine mw_go mu_g199 (k := 2) (f1 := (79, [(4, .inl (rw_get H (m + 19) 4 (gi_sz H (m + 19)) (rw_get H (m + 1) 2 (gi_sz H (m + 1)) v 1) 2)), (3, .inl (rw_get H (m + 1) 2 (gi_sz H (m + 1)) v 1)), (0, .inr (.inr (some 91))), (1, .inl v), (2, .inl w)], [.inl w, .inl (rw_get H (m + 1) 2 (gi_sz H (m + 1)) v 1), .inr (.inr (some m))], H)) (C := []) rfl trivial ?_
          refine mw_cI (fun _ => rfl) (show mu_is H (some m) 6 from gi_im hg hm) (md_reach (d := d) hg hm (rw_get H (m + 1) 2 (gi_sz H (m + 1)) v 1) w) (fun x15 H15 q15 => ?_)
          obtain rfl := q15
          refine mw_go mu_g199 (k := 1) (f1 := (86, [(4, .inl (rw_get H (m + 19) 4 (gi_sz H (m + 19)) (rw_get H (m + 1) 2 (gi_sz H (m + 1)) v 1) 2)), (3, .inl (rw_get H (m + 1) 2 (gi_sz H (m + 1)) v 1)), (0, .inr (.inr (some 91))), (1, .inl v), (2, .inl w)], [.inl x15], H)) (C := []) rfl trivial ?_
          exact mw_of (fun _ => mu_ret rfl trivial ⟨_, _, rfl, rfl⟩)
        · -- 85: not (rw_get H (m + 19) 4 (gi_sz H (m + 19)) (rw_get H (m + 1) 2 (gi_sz H (m + 1)) v 1) 2) = (2 : Int32)
          refine mw_go mu_g199 (k := 1) (f1 := (86, [(4, .inl (rw_get H (m + 19) 4 (gi_sz H (m + 19)) (rw_get H (m + 1) 2 (gi_sz H (m + 1)) v 1) 2)), (3, .inl (rw_get H (m + 1) 2 (gi_sz H (m + 1)) v 1)), (0, .inr (.inr (some 91))), (1, .inl v), (2, .inl w)], [.inl (-1 : Int32)], H)) (C := []) rfl trivial ?_
          exact mw_of (fun _ => mu_ret rfl trivial ⟨_, _, rfl, rfl⟩)
    · -- 45: not (rw_get H (m + 1) 2 (gi_sz H (m + 1)) v 0) = (3 : Int32)
      refine mw_go mu_g199 (k := 1) (f1 := (46, [(3, .inl (rw_get H (m + 1) 2 (gi_sz H (m + 1)) v 1)), (0, .inr (.inr (some 91))), (1, .inl v), (2, .inl w)], [.inl (-1 : Int32)], H)) (C := []) rfl trivial ?_
      exact mw_of (fun _ => mu_ret rfl trivial ⟨_, _, rfl, rfl⟩)
end Reads
