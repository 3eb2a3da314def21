/-! PATHPROVER: four bytes are written -/
/-- PathProver.write(I)V -/
abbrev mu_m26 : ev_M := (3, none, [], ev_b26)
theorem mu_g26 : mu_good mu_m26 := mu_goodk ev_k26
/-- one byte of four, at the place k of the tape at t -/
def tw1 (G : mu_H) (t k : Nat) (x s : Int32) : mu_H := mu_si (mu_si G t k (vp_nar .byte ((x >>> (s &&& 31)).toInt8.toInt32))) 0 1 (nI (k + 1))
section Writes
variable {run : Nat → List ev_V → List ev_C → Option ev_R} {G : mu_H} {t k : Nat}
theorem pv_wstep {Φ : mu_R → Prop} {s x : Int32} (h0 : mu_is G (some 0) 0) (ht : mu_r G 0 0 = some t) (hti : mu_is G (some t) 101) (he : mu_i G 0 1 = nI k) (hk : k < mu_n G t) (hn : mu_n G t ≤ 16777216) (ht0 : t ≠ 0) (h : mu_W run mu_m26 (3, [(2, .inl (s + (-8))), (0, .inr (.inr (some 0))), (1, .inl x)], [], tw1 G t k x s) Φ) : mu_W run mu_m26 (7, [(2, .inl s), (0, .inr (.inr (some 0))), (1, .inl x)], [], G) Φ := by
  refine mw_go mu_g26 (k := 2) (f1 := (11, [(2, .inl s), (0, .inr (.inr (some 0))), (1, .inl x)], [.inr (.inr (mu_r G 0 0))], G)) (C := [mu_is G (some 0) 0]) rfl (show mu_is G (some 0) 0 from h0) ?_
  rw [ht]
  refine mw_go mu_g26 (k := 2) (f1 := (15, [(2, .inl s), (0, .inr (.inr (some 0))), (1, .inl x)], [.inl (mu_i G 0 1), .inr (.inr (some t))], G)) (C := [mu_is G (some 0) 0]) rfl (show mu_is G (some 0) 0 from h0) ?_
  rw [he]
  refine mw_go mu_g26 (k := 5) (f1 := (20, [(2, .inl s), (0, .inr (.inr (some 0))), (1, .inl x)], [], mu_si G t (nI k).toNatClampNeg (vp_nar .byte ((x >>> (s &&& 31)).toInt8.toInt32)))) (C := [mu_is G (some t) 101, vp_in (nI k) (mu_n G t)]) rfl ⟨hti, vp_in_nI hk (by omega)⟩ ?_
  rw [nI_clamp (by omega)]
  refine mw_go mu_g26 (k := 3) (f1 := (25, [(2, .inl s), (0, .inr (.inr (some 0))), (1, .inl x)], [.inl (mu_i (mu_si G t k (vp_nar .byte ((x >>> (s &&& 31)).toInt8.toInt32))) 0 1), .inr (.inr (some 0))], mu_si G t k (vp_nar .byte ((x >>> (s &&& 31)).toInt8.toInt32)))) (C := [mu_is (mu_si G t k (vp_nar .byte ((x >>> (s &&& 31)).toInt8.toInt32))) (some 0) 0]) rfl (show mu_is G (some 0) 0 from h0) ?_
  rw [mu_i_si, if_neg (fun z => ht0 z.1.symm), he]
  refine mw_go mu_g26 (k := 2) (f1 := (27, [(2, .inl s), (0, .inr (.inr (some 0))), (1, .inl x)], [.inl (nI k + 1), .inr (.inr (some 0))], mu_si G t k (vp_nar .byte ((x >>> (s &&& 31)).toInt8.toInt32)))) (C := []) rfl trivial ?_
  rw [nI_1]
  refine mw_go mu_g26 (k := 3) (f1 := (3, [(2, .inl (s + (-8))), (0, .inr (.inr (some 0))), (1, .inl x)], [], tw1 G t k x s)) (C := [mu_is (mu_si G t k (vp_nar .byte ((x >>> (s &&& 31)).toInt8.toInt32))) (some 0) 0]) rfl (show mu_is G (some 0) 0 from h0) ?_
  exact h
/-- the four bytes of an int -/
def tw4 (G : mu_H) (t k : Nat) (x : Int32) : mu_H := tw1 (tw1 (tw1 (tw1 G t k x 24) t (k + 1) x 16) t (k + 2) x 8) t (k + 3) x 0
theorem tw1_r {x s : Int32} (p j : Nat) : mu_r (tw1 G t k x s) p j = mu_r G p j := rfl
theorem tw1_n {x s : Int32} (p : Nat) : mu_n (tw1 G t k x s) p = mu_n G p := rfl
theorem tw1_len {x s : Int32} : mu_i (tw1 G t k x s) 0 1 = nI (k + 1) := rfl
theorem tw1_is {x s : Int32} {o : Option Nat} {kd : Nat} (h : mu_is G o kd) : mu_is (tw1 G t k x s) o kd := h
theorem pv_write {d : Nat} (h0 : mu_is G (some 0) 0) (ht : mu_r G 0 0 = some t) (hti : mu_is G (some t) 101) (he : mu_i G 0 1 = nI k) (hk : k + 4 ≤ mu_n G t) (hn : mu_n G t ≤ 16777216) (ht0 : t ≠ 0) (x : Int32) : mu_TV (mu_D (d + 1)) 26 [.inr (.inr (some 0)), .inl x] G (fun H1 => H1 = tw4 G t k x) := by
  refine mu_meth (M := mu_m26) rfl rfl ?_
  refine mw_ht (mu_fn_of (show [0, 1].Nodup by decide)) ?_
  refine mw_go mu_g26 (k := 2) (f1 := (3, [(2, .inl (24 : Int32)), (0, .inr (.inr (some 0))), (1, .inl x)], [], G)) (C := []) rfl trivial ?_
  have head : ∀ {s : Int32} {H : mu_H} {Φ : mu_R → Prop}, ¬ s < 0 → mu_W (mu_D d) mu_m26 (7, [(2, .inl s), (0, .inr (.inr (some 0))), (1, .inl x)], [], H) Φ → mu_W (mu_D d) mu_m26 (3, [(2, .inl s), (0, .inr (.inr (some 0))), (1, .inl x)], [], H) Φ := by
    intro s H Φ hs h
    refine mw_go mu_g26 (k := 1) (f1 := (4, [(2, .inl s), (0, .inr (.inr (some 0))), (1, .inl x)], [.inl s], H)) (C := []) rfl trivial ?_
    exact mw_if (P := s < 0) (a := 36) (b := 7) (fun _ => rfl) trivial (fun z => absurd z hs) (fun _ => h)
  refine head (by decide) (pv_wstep h0 ht hti he (by omega) hn ht0 ?_)
  rw [show (24 : Int32) + (-8) = 16 from by decide]
  refine head (by decide) (pv_wstep (tw1_is h0) ht (tw1_is hti) tw1_len (by rw [tw1_n]; omega) hn ht0 ?_)
  rw [show (16 : Int32) + (-8) = 8 from by decide]
  refine head (by decide) (pv_wstep (tw1_is (tw1_is h0)) ht (tw1_is (tw1_is hti)) tw1_len (by rw [tw1_n, tw1_n]; omega) hn ht0 ?_)
  rw [show (8 : Int32) + (-8) = 0 from by decide]
  refine head (by decide) (pv_wstep (tw1_is (tw1_is (tw1_is h0))) ht (tw1_is (tw1_is (tw1_is hti))) tw1_len (by rw [tw1_n, tw1_n, tw1_n]; omega) hn ht0 ?_)
  rw [show (0 : Int32) + (-8) = -8 from by decide]
  refine mw_go mu_g26 (k := 1) (f1 := (4, [(2, .inl (-8 : Int32)), (0, .inr (.inr (some 0))), (1, .inl x)], [.inl (-8 : Int32)], tw4 G t k x)) (C := []) rfl trivial ?_
  refine mw_if (P := (-8 : Int32) < 0) (a := 36) (b := 7) (fun _ => rfl) trivial (fun _ => ?_) (fun z => absurd (by decide) z)
  exact mw_of (fun _ => mu_ret rfl trivial ⟨_, rfl, rfl⟩)
end Writes
