/-! PATHPROVER: what it asks before it answers; end, place, faults, tidy -/
section Throws
variable {run : Nat → List ev_V → List ev_C → Option ev_R} {M : ev_M}
/-- a virtual call that returns or throws; what it throws is not caught here -/
theorem mw_callx {pc idx j na ci : Nat} {rest : List Nat} {L : mu_L} {S as S1 : List mu_V} {o : Option Nat} {H : mu_H} {Φ Ψ : mu_R → Prop} (hf : ev_find M.2.2.2 pc = some (.invokevirtual idx, j :: na :: ci :: rest)) (hS : S.take na = as.reverse) (hS2 : S.drop na = .inr (.inr o) :: S1) (hn : as.length = na) (hw : mu_wds S1 ≤ 8) (hci : ci < 100) (ho : mu_is H o ci) (hT : mu_MT run j (.inr (.inr o) :: as) H Ψ) (hk : ∀ v H1, Ψ (.inl v, H1) → mu_W run M (pc + 3, L, v.toList ++ S1, H1) Φ) (hh : M.2.2.1 = []) (hx : ∀ x H1, Ψ (.inr x, H1) → x < 4 ∧ Φ (.inr x, H1)) : mu_W run M (pc, L, S, H) Φ :=
  fun L0 hs => mu_callx hf hS hS2 hn hw hci ho hT (fun v H1 q => hk v H1 q L0 hs) (fun x H1 q => Or.inr ⟨hh, (hx x H1 q).1, (hx x H1 q).2⟩)
end Throws
section Asks
variable {H : mu_H} {d m : Nat}
/-- PathProver.needNumber(II)V -/
abbrev mu_m61 : ev_M := (3, none, [], ev_b61)
theorem mu_g61 : mu_good mu_m61 := mu_goodk ev_k61
theorem pv_number (hg : gi H) (i b : Int32) : mu_MT (mu_D (d + 1)) 61 [.inr (.inr (some 0)), .inl i, .inl b] H (fun r => (if i < 0 then r = (.inr 0, mu_ex H) else (if (mu_i H 0 3) = 0 then r = (.inl none, H) else (if i < b then r = (.inl none, H) else r = (.inr 0, mu_ex H))))) := by
  refine mu_meth (M := mu_m61) rfl rfl ?_
  refine mw_ht (mu_fn_of (show [0, 1, 2].Nodup by decide)) ?_
  refine mw_go mu_g61 (k := 1) (f1 := (1, [(0, .inr (.inr (some 0))), (1, .inl i), (2, .inl b)], [.inl i], H)) (C := []) rfl trivial ?_
  refine mw_if (P := i < 0) (a := 16) (b := 4) (fun _ => rfl) trivial (fun h1 => ?_) (fun h1 => ?_)
  · -- 16: i < 0
    exact mw_of (fun _ => mu_throw rfl rfl rfl rfl (by decide) rfl (by decide) (by rw [if_pos h1]))
  · -- 4: not i < 0
    refine mw_go mu_g61 (k := 2) (f1 := (8, [(0, .inr (.inr (some 0))), (1, .inl i), (2, .inl b)], [.inl (mu_i H 0 3)], H)) (C := [mu_is H (some 0) 0]) rfl (show mu_is H (some 0) 0 from hg.is rfl) ?_
    refine mw_if (P := (mu_i H 0 3) = 0) (a := 24) (b := 11) (fun _ => rfl) trivial (fun h2 => ?_) (fun h2 => ?_)
    · -- 24: (mu_i H 0 3) = 0
      exact mw_of (fun _ => mu_ret rfl trivial (by rw [if_neg h1, if_pos h2]))
    · -- 11: not (mu_i H 0 3) = 0
      refine mw_go mu_g61 (k := 2) (f1 := (13, [(0, .inr (.inr (some 0))), (1, .inl i), (2, .inl b)], [.inl b, .inl i], H)) (C := []) rfl trivial ?_
      refine mw_if (P := i < b) (a := 24) (b := 16) (fun _ => rfl) trivial (fun h3 => ?_) (fun h3 => ?_)
      · -- 24: i < b
        exact mw_of (fun _ => mu_ret rfl trivial (by rw [if_neg h1, if_neg h2, if_pos h3]))
      · -- 16: not i < b
        exact mw_of (fun _ => mu_throw rfl rfl rfl rfl (by decide) rfl (by decide) (by rw [if_neg h1, if_neg h2, if_neg h3]))
/-- PathProver.needModel()V -/
abbrev mu_m64 : ev_M := (1, none, [], ev_b64)
theorem mu_g64 : mu_good mu_m64 := mu_goodk ev_k64
theorem pv_model (hg : gi H) : mu_MT (mu_D (d + 1)) 64 [.inr (.inr (some 0))] H (fun r => (if (mu_i H 0 3) = 0 then r = (.inr 1, mu_ex H) else r = (.inl none, H))) := by
  refine mu_meth (M := mu_m64) rfl rfl ?_
  refine mw_ht (mu_fn_of (show [0].Nodup by decide)) ?_
  refine mw_go mu_g64 (k := 2) (f1 := (4, [(0, .inr (.inr (some 0)))], [.inl (mu_i H 0 3)], H)) (C := [mu_is H (some 0) 0]) rfl (show mu_is H (some 0) 0 from hg.is rfl) ?_
  refine mw_if (P := (mu_i H 0 3) = 0) (a := 7) (b := 15) (fun _ => rfl) trivial (fun h1 => ?_) (fun h1 => ?_)
  · -- 7: (mu_i H 0 3) = 0
    exact mw_of (fun _ => mu_throw rfl rfl rfl rfl (by decide) rfl (by decide) (by rw [if_pos h1]))
  · -- 15: not (mu_i H 0 3) = 0
    exact mw_of (fun _ => mu_ret rfl trivial (by rw [if_neg h1]))
/-- PathProver.needPlain(I)V -/
abbrev mu_m76 : ev_M := (2, none, [], ev_b76)
theorem mu_g76 : mu_good mu_m76 := mu_goodk ev_k76
theorem pv_plain (hg : gi H) (n : Int32) : mu_MT (mu_D (d + 1)) 76 [.inr (.inr (some 0)), .inl n] H (fun r => (if n < 0 then r = (.inr 0, mu_ex H) else r = (.inl none, H))) := by
  refine mu_meth (M := mu_m76) rfl rfl ?_
  refine mw_ht (mu_fn_of (show [0, 1].Nodup by decide)) ?_
  refine mw_go mu_g76 (k := 1) (f1 := (1, [(0, .inr (.inr (some 0))), (1, .inl n)], [.inl n], H)) (C := []) rfl trivial ?_
  refine mw_if (P := n < 0) (a := 4) (b := 12) (fun _ => rfl) trivial (fun h1 => ?_) (fun h1 => ?_)
  · -- 4: n < 0
    exact mw_of (fun _ => mu_throw rfl rfl rfl rfl (by decide) rfl (by decide) (by rw [if_pos h1]))
  · -- 12: not n < 0
    exact mw_of (fun _ => mu_ret rfl trivial (by rw [if_neg h1]))
/-- PathProver.needCurrent()V -/
abbrev mu_m375 : ev_M := (1, none, [], ev_b375)
theorem mu_g375 : mu_good mu_m375 := mu_goodk ev_k375
theorem pv_current (hg : gi H) : mu_MT (mu_D (d + 1)) 375 [.inr (.inr (some 0))] H (fun r => (if (mu_i H 0 13) < 0 then r = (.inr 2, mu_ex H) else r = (.inl none, H))) := by
  refine mu_meth (M := mu_m375) rfl rfl ?_
  refine mw_ht (mu_fn_of (show [0].Nodup by decide)) ?_
  refine mw_go mu_g375 (k := 2) (f1 := (4, [(0, .inr (.inr (some 0)))], [.inl (mu_i H 0 13)], H)) (C := [mu_is H (some 0) 0]) rfl (show mu_is H (some 0) 0 from hg.is rfl) ?_
  refine mw_if (P := (mu_i H 0 13) < 0) (a := 7) (b := 15) (fun _ => rfl) trivial (fun h1 => ?_) (fun h1 => ?_)
  · -- 7: (mu_i H 0 13) < 0
    exact mw_of (fun _ => mu_throw rfl rfl rfl rfl (by decide) rfl (by decide) (by rw [if_pos h1]))
  · -- 15: not (mu_i H 0 13) < 0
    exact mw_of (fun _ => mu_ret rfl trivial (by rw [if_neg h1]))
/-- PathProver.end(I)I -/
abbrev mu_m30 : ev_M := (2, (some .int), [], ev_b30)
theorem mu_g30 : mu_good mu_m30 := mu_goodk ev_k30
theorem pv_end (hg : gi H) (n : Int32) : mu_MT (mu_D (d + 1)) 30 [.inr (.inr (some 0)), .inl n] H (fun r => (if n < 0 then r = (.inr 0, mu_ex H) else (if (mu_i H 0 1) < n then r = (.inr 0, mu_ex H) else r = (.inl (some (.inl n)), (mu_si H 0 1 n))))) := by
  refine mu_meth (M := mu_m30) rfl rfl ?_
  refine mw_ht (mu_fn_of (show [0, 1].Nodup by decide)) ?_
  refine mw_go mu_g30 (k := 1) (f1 := (1, [(0, .inr (.inr (some 0))), (1, .inl n)], [.inl n], H)) (C := []) rfl trivial ?_
  refine mw_if (P := n < 0) (a := 12) (b := 4) (fun _ => rfl) trivial (fun h1 => ?_) (fun h1 => ?_)
  · -- 12: n < 0
    exact mw_of (fun _ => mu_throw rfl rfl rfl rfl (by decide) rfl (by decide) (by rw [if_pos h1]))
  · -- 4: not n < 0
    refine mw_go mu_g30 (k := 3) (f1 := (9, [(0, .inr (.inr (some 0))), (1, .inl n)], [.inl (mu_i H 0 1), .inl n], H)) (C := [mu_is H (some 0) 0]) rfl (show mu_is H (some 0) 0 from hg.is rfl) ?_
    refine mw_if (P := (mu_i H 0 1) < n) (a := 12) (b := 20) (fun _ => rfl) trivial (fun h2 => ?_) (fun h2 => ?_)
    · -- 12: (mu_i H 0 1) < n
      exact mw_of (fun _ => mu_throw rfl rfl rfl rfl (by decide) rfl (by decide) (by rw [if_neg h1, if_pos h2]))
    · -- 20: not (mu_i H 0 1) < n
      refine mw_go mu_g30 (k := 4) (f1 := (26, [(0, .inr (.inr (some 0))), (1, .inl n)], [.inl n], (mu_si H 0 1 n))) (C := [mu_is H (some 0) 0]) rfl (show mu_is H (some 0) 0 from hg.is rfl) ?_
      exact mw_of (fun _ => mu_ret rfl trivial (by rw [if_neg h1, if_neg h2]))
/-- PathProver.place()I -/
abbrev mu_m57 : ev_M := (1, (some .int), [], ev_b57)
theorem mu_g57 : mu_good mu_m57 := mu_goodk ev_k57
theorem pv_place (hg : gi H) : mu_MT (mu_D (d + 1)) 57 [.inr (.inr (some 0))] H (fun r => r = (.inl (some (.inl (mu_i H 0 2))), H)) := by
  refine mu_meth (M := mu_m57) rfl rfl ?_
  refine mw_ht (mu_fn_of (show [0].Nodup by decide)) ?_
  refine mw_go mu_g57 (k := 2) (f1 := (4, [(0, .inr (.inr (some 0)))], [.inl (mu_i H 0 2)], H)) (C := [mu_is H (some 0) 0]) rfl (show mu_is H (some 0) 0 from hg.is rfl) ?_
  exact mw_of (fun _ => mu_ret rfl trivial rfl)
/-- PathProver.faults(I)I -/
abbrev mu_m94 : ev_M := (2, (some .int), [], ev_b94)
theorem mu_g94 : mu_good mu_m94 := mu_goodk ev_k94
theorem pv_faults (hg : gi H) (n : Int32) : mu_MT (mu_D (d + 1)) 94 [.inr (.inr (some 0)), .inl n] H (fun r => (if n < 0 then r = (.inr 0, mu_ex H) else (if (2 : Int32) < n then r = (.inr 0, mu_ex H) else (if n = (2 : Int32) then r = (.inl (some (.inl (mu_i H 158 13))), H) else r = (.inl (some (.inl (0 : Int32))), H))))) := by
  refine mu_meth (M := mu_m94) rfl rfl ?_
  refine mw_ht (mu_fn_of (show [0, 1].Nodup by decide)) ?_
  refine mw_go mu_g94 (k := 1) (f1 := (1, [(0, .inr (.inr (some 0))), (1, .inl n)], [.inl n], H)) (C := []) rfl trivial ?_
  refine mw_if (P := n < 0) (a := 9) (b := 4) (fun _ => rfl) trivial (fun h1 => ?_) (fun h1 => ?_)
  · -- 9: n < 0
    exact mw_of (fun _ => mu_throw rfl rfl rfl rfl (by decide) rfl (by decide) (by rw [if_pos h1]))
  · -- 4: not n < 0
    refine mw_go mu_g94 (k := 2) (f1 := (6, [(0, .inr (.inr (some 0))), (1, .inl n)], [.inl (2 : Int32), .inl n], H)) (C := []) rfl trivial ?_
    refine mw_if (P := (2 : Int32) < n) (a := 9) (b := 17) (fun _ => rfl) trivial (fun h2 => ?_) (fun h2 => ?_)
    · -- 9: (2 : Int32) < n
      exact mw_of (fun _ => mu_throw rfl rfl rfl rfl (by decide) rfl (by decide) (by rw [if_neg h1, if_pos h2]))
    · -- 17: not (2 : Int32) < n
      refine mw_go mu_g94 (k := 2) (f1 := (19, [(0, .inr (.inr (some 0))), (1, .inl n)], [.inl (2 : Int32), .inl n], H)) (C := []) rfl trivial ?_
      refine mw_if (P := n = (2 : Int32)) (a := 22) (b := 32) (fun _ => rfl) trivial (fun h3 => ?_) (fun h3 => ?_)
      · -- 22: n = (2 : Int32)
        refine mw_go mu_g94 (k := 2) (f1 := (26, [(0, .inr (.inr (some 0))), (1, .inl n)], [.inr (.inr (mu_r H 0 11))], H)) (C := [mu_is H (some 0) 0]) rfl (show mu_is H (some 0) 0 from hg.is rfl) ?_
        rw [(hg.r (p := 0) (j := 11) (q := 158) rfl)]
        refine mw_go mu_g94 (k := 2) (f1 := (33, [(0, .inr (.inr (some 0))), (1, .inl n)], [.inl (mu_i H 158 13)], H)) (C := [mu_is H (some 158) 8]) rfl (show mu_is H (some 158) 8 from hg.is rfl) ?_
        exact mw_of (fun _ => mu_ret rfl trivial (by rw [if_neg h1, if_neg h2, if_pos h3]))
      · -- 32: not n = (2 : Int32)
        refine mw_go mu_g94 (k := 1) (f1 := (33, [(0, .inr (.inr (some 0))), (1, .inl n)], [.inl (0 : Int32)], H)) (C := []) rfl trivial ?_
        exact mw_of (fun _ => mu_ret rfl trivial (by rw [if_neg h1, if_neg h2, if_neg h3]))
/-- PathProver.tidy(I)I -/
abbrev mu_m91 : ev_M := (2, (some .int), [], ev_b91)
theorem mu_g91 : mu_good mu_m91 := mu_goodk ev_k91
theorem pv_tidy (hg : gi H) (hm : m = 2 ∨ m = 41) (hm4 : mu_r H 0 4 = some m) (n : Int32) : mu_MT (mu_D (d + 2)) 91 [.inr (.inr (some 0)), .inl n] H (fun r => (if n < 0 then r = (.inr 0, mu_ex H) else (if (3 : Int32) < n then r = (.inr 0, mu_ex H) else (if mu_i H 0 3 = 0 then r = (.inr 1, mu_ex H) else r = (.inl (some (.inl (mu_i H (m + 35) 2))), H))))) := by
  refine mu_meth (M := mu_m91) rfl rfl ?_
  refine mw_ht (mu_fn_of (show [0, 1].Nodup by decide)) ?_
  refine mw_go mu_g91 (k := 1) (f1 := (1, [(0, .inr (.inr (some 0))), (1, .inl n)], [.inl n], H)) (C := []) rfl trivial ?_
  refine mw_if (P := n < 0) (a := 9) (b := 4) (fun _ => rfl) trivial (fun h1 => ?_) (fun h1 => ?_)
  · -- 9: n < 0
    exact mw_of (fun _ => mu_throw rfl rfl rfl rfl (by decide) rfl (by decide) (by rw [if_pos h1]))
  · -- 4: not n < 0
    refine mw_go mu_g91 (k := 2) (f1 := (6, [(0, .inr (.inr (some 0))), (1, .inl n)], [.inl (3 : Int32), .inl n], H)) (C := []) rfl trivial ?_
    refine mw_if (P := (3 : Int32) < n) (a := 9) (b := 17) (fun _ => rfl) trivial (fun h2 => ?_) (fun h2 => ?_)
    · -- 9: (3 : Int32) < n
      exact mw_of (fun _ => mu_throw rfl rfl rfl rfl (by decide) rfl (by decide) (by rw [if_neg h1, if_pos h2]))
    · -- 17: not (3 : Int32) < n
      refine mw_go mu_g91 (k := 1) (f1 := (18, [(0, .inr (.inr (some 0))), (1, .inl n)], [.inr (.inr (some 0))], H)) (C := []) rfl trivial ?_
      refine mw_callx (as := []) (S1 := []) rfl rfl rfl rfl (by decide) (by decide) (show mu_is H (some 0) 0 from hg.is rfl) (pv_model (d := d) hg) (fun v H1 q => ?_) rfl (fun x H1 q => ?_)
      · by_cases hc3 : mu_i H 0 3 = 0
        · rw [if_pos hc3] at q; cases q
        · rw [if_neg hc3] at q; cases q
          refine mw_go mu_g91 (k := 2) (f1 := (25, [(0, .inr (.inr (some 0))), (1, .inl n)], [.inr (.inr (mu_r H 0 4))], H)) (C := [mu_is H (some 0) 0]) rfl (show mu_is H (some 0) 0 from hg.is rfl) ?_
          rw [hm4]
          refine mw_go mu_g91 (k := 1) (f1 := (28, [(0, .inr (.inr (some 0))), (1, .inl n)], [.inr (.inr (mu_r H m 17))], H)) (C := [mu_is H (some m) 6]) rfl (show mu_is H (some m) 6 from (gi_im hg hm)) ?_
          rw [(show mu_r H m 17 = some (m + 35) from (gi_mr hg hm (j := 17) (by decide)).trans (congrArg some (by omega)))]
          refine mw_go mu_g91 (k := 1) (f1 := (31, [(0, .inr (.inr (some 0))), (1, .inl n)], [.inl (mu_i H (m + 35) 2)], H)) (C := [mu_is H (some (m + 35)) 10]) rfl (show mu_is H (some (m + 35)) 10 from (hg.w (md_w17 hm)).1) ?_
          exact mw_of (fun _ => mu_ret rfl trivial (by rw [if_neg h1, if_neg h2, if_neg hc3]))
      · by_cases hc3 : mu_i H 0 3 = 0
        · rw [if_pos hc3] at q; cases q; exact ⟨by decide, (by rw [if_neg h1, if_neg h2, if_pos hc3])⟩
        · rw [if_neg hc3] at q; cases q
end Asks
