/-! The reference: Nodes (codeOf, the constructor, add, is) -/
/-- PathProverModel$Node.codeOf(Ljava/lang/String;)I -/
abbrev mu_m521 : ev_M := (1, (some .int), [], ev_b521)
theorem mu_g521 : mu_good mu_m521 := mu_goodk ev_k521
/-- PathProverModel$Node.<init>(Ljava/lang/String;)V -/
abbrev mu_m519 : ev_M := (2, none, [], ev_b519)
theorem mu_g519 : mu_good mu_m519 := mu_goodk ev_k519
/-- PathProverModel$Node.add(LPathProverModel$Node;)LPathProverModel$Node; -/
abbrev mu_m520 : ev_M := (4, (some (.object "PathProverModel$Node")), [], ev_b520)
theorem mu_g520 : mu_good mu_m520 := mu_goodk ev_k520
/-- PathProverModel$Node.is(Ljava/lang/String;)Z -/
abbrev mu_m518 : ev_M := (2, (some .boolean), [], ev_b518)
theorem mu_g518 : mu_good mu_m518 := mu_goodk ev_k518
section NodeRules
variable {run : Nat → List ev_V → List ev_C → Option ev_R} {M : ev_M}
theorem mw_obj {pc idx a : Nat} {L : mu_L} {S : List mu_V} {o : Option Nat} {H : mu_H} {Φ : mu_R → Prop} (hf : ev_find M.2.2.2 pc = some (.invokespecial idx, [a])) (ho : o = some (mu_p o) ∧ mu_p o < mu_z H) (hS : mu_wds S ≤ 8) (h : mu_W run M (pc + 3, L, S, H) Φ) : mu_W run M (pc, L, .inr (.inr o) :: S, H) Φ := fun L0 hs => mu_obj hf ho hS (h L0 hs)
theorem mw_aastO {pc t ct : Nat} {ops : List Nat} {L : mu_L} {S : List mu_V} {v o : Option Nat} {i : Int32} {H : mu_H} {Φ : mu_R → Prop} (hf : ev_find M.2.2.2 pc = some (.aastore, ops)) (ho : mu_is H o (100 + t)) (hv : mu_is H v ct) (ht : t = 6 ∧ ct = 17 ∨ t = 7 ∧ ct = 14 ∨ t = 9 ∧ ct = 18 ∨ t = 10 ∧ ct = 15) (hi : vp_in i (mu_n H (mu_p o))) (h : mu_W run M (pc + 1, L, S, mu_sr H (mu_p o) i.toNatClampNeg v) Φ) : mu_W run M (pc, L, .inr (.inr v) :: .inl i :: .inr (.inr o) :: S, H) Φ := fun L0 hs => mu_aastO hf ho hv ht hi (h L0 hs)
theorem mw_aastS {pc : Nat} {ops : List Nat} {L : mu_L} {S : List mu_V} {v o : Option Nat} {i : Int32} {H : mu_H} {Φ : mu_R → Prop} (hf : ev_find M.2.2.2 pc = some (.aastore, ops)) (ho : mu_is H o 103) (hv : mu_sg H v) (hi : vp_in i (mu_n H (mu_p o))) (h : mu_W run M (pc + 1, L, S, mu_sr H (mu_p o) i.toNatClampNeg v) Φ) : mu_W run M (pc, L, .inr (.inr v) :: .inl i :: .inr (.inr o) :: S, H) Φ := fun L0 hs => mu_aastS hf ho hv hi (h L0 hs)
end NodeRules
/-- a kind's code -/
def cof (k : List Int32) : Int32 := if k = txt 63 then (1 : Int32) else if k = txt 54 then (2 : Int32) else if k = txt 55 then (3 : Int32) else if k = txt 64 then (4 : Int32) else if k = txt 33 then (5 : Int32) else if k = txt 18 then (6 : Int32) else if k = txt 65 then (7 : Int32) else if k = txt 2 then (8 : Int32) else if k = txt 19 then (9 : Int32) else if k = txt 1 then (10 : Int32) else if k = txt 52 then (11 : Int32) else if k = txt 66 then (12 : Int32) else if k = txt 21 then (13 : Int32) else if k = txt 5 then (14 : Int32) else if k = txt 22 then (15 : Int32) else if k = txt 6 then (16 : Int32) else if k = txt 23 then (17 : Int32) else if k = txt 7 then (18 : Int32) else if k = txt 50 then (19 : Int32) else if k = txt 20 then (20 : Int32) else if k = txt 40 then (21 : Int32) else if k = txt 24 then (22 : Int32) else if k = txt 25 then (23 : Int32) else if k = txt 26 then (24 : Int32) else if k = txt 27 then (25 : Int32) else if k = txt 51 then (26 : Int32) else if k = txt 41 then (27 : Int32) else if k = txt 44 then (28 : Int32) else if k = txt 42 then (29 : Int32) else if k = txt 46 then (30 : Int32) else if k = txt 43 then (31 : Int32) else if k = txt 45 then (32 : Int32) else if k = txt 47 then (33 : Int32) else if k = txt 48 then (34 : Int32) else 0
set_option maxRecDepth 8000 in
theorem nd_code {d s : Nat} {k : List Int32} {H : mu_H} (h : sb H (some s) k) (hk : k.length < 2 ^ 31) : mu_TI (mu_D (d + 3)) 521 [.inr (.inr (some s))] H (fun x H1 => x = cof k ∧ H1 = H) := by
  refine mu_MT.ot fun hot => ?_
  refine mu_meth (M := mu_m521) rfl rfl ?_
  refine mw_ht (mu_fn_of (show [0].Nodup by decide)) ?_
  refine mw_go mu_g521 (k := 2) (f1 := (3, [(0, .inr (.inr (some s)))], [.inr (.inr (some 1000063)), .inr (.inr (some s))], H)) (C := []) rfl trivial ?_
  refine mw_cS rfl (by decide) h.1 (sb_equals (d := d) h (sb_lit (j := 63) hot (by decide)) hk (Nat.lt_trans (txt_len 63 (by decide)) (by decide))) (fun x H1 e => ?_)
  rw [e.1, e.2]
  show mu_W _ mu_m521 (6, [(0, .inr (.inr (some s)))], [.inl (if k = txt 63 then 1 else 0)], H) _
  refine mw_if (P := (if k = txt 63 then (1 : Int32) else 0) = 0) (a := 11) (b := 9) (fun _ => rfl) trivial (fun g => ?_) (fun g => ?_)
  rotate_left
  · -- 9
    refine mw_go mu_g521 (k := 1) (f1 := (10, [(0, .inr (.inr (some s)))], [.inl (1 : Int32)], H)) (C := []) rfl trivial ?_
    exact mw_of (fun _ => mu_ret rfl trivial ⟨_, _, rfl, (by unfold cof; rw [if_pos (Decidable.byContradiction (fun c => g (if_neg c)))]), rfl⟩)
  have n0 : ¬ k = txt 63 := fun c => by rw [if_pos c] at g; exact absurd g (by decide)
  refine mw_go mu_g521 (k := 2) (f1 := (14, [(0, .inr (.inr (some s)))], [.inr (.inr (some 1000054)), .inr (.inr (some s))], H)) (C := []) rfl trivial ?_
  refine mw_cS rfl (by decide) h.1 (sb_equals (d := d) h (sb_lit (j := 54) hot (by decide)) hk (Nat.lt_trans (txt_len 54 (by decide)) (by decide))) (fun x H1 e => ?_)
  rw [e.1, e.2]
  show mu_W _ mu_m521 (17, [(0, .inr (.inr (some s)))], [.inl (if k = txt 54 then 1 else 0)], H) _
  refine mw_if (P := (if k = txt 54 then (1 : Int32) else 0) = 0) (a := 22) (b := 20) (fun _ => rfl) trivial (fun g => ?_) (fun g => ?_)
  rotate_left
  · -- 20
    refine mw_go mu_g521 (k := 1) (f1 := (21, [(0, .inr (.inr (some s)))], [.inl (2 : Int32)], H)) (C := []) rfl trivial ?_
    exact mw_of (fun _ => mu_ret rfl trivial ⟨_, _, rfl, (by unfold cof; rw [if_neg n0, if_pos (Decidable.byContradiction (fun c => g (if_neg c)))]), rfl⟩)
  have n1 : ¬ k = txt 54 := fun c => by rw [if_pos c] at g; exact absurd g (by decide)
  refine mw_go mu_g521 (k := 2) (f1 := (25, [(0, .inr (.inr (some s)))], [.inr (.inr (some 1000055)), .inr (.inr (some s))], H)) (C := []) rfl trivial ?_
  refine mw_cS rfl (by decide) h.1 (sb_equals (d := d) h (sb_lit (j := 55) hot (by decide)) hk (Nat.lt_trans (txt_len 55 (by decide)) (by decide))) (fun x H1 e => ?_)
  rw [e.1, e.2]
  show mu_W _ mu_m521 (28, [(0, .inr (.inr (some s)))], [.inl (if k = txt 55 then 1 else 0)], H) _
  refine mw_if (P := (if k = txt 55 then (1 : Int32) else 0) = 0) (a := 33) (b := 31) (fun _ => rfl) trivial (fun g => ?_) (fun g => ?_)
  rotate_left
  · -- 31
    refine mw_go mu_g521 (k := 1) (f1 := (32, [(0, .inr (.inr (some s)))], [.inl (3 : Int32)], H)) (C := []) rfl trivial ?_
    exact mw_of (fun _ => mu_ret rfl trivial ⟨_, _, rfl, (by unfold cof; rw [if_neg n0, if_neg n1, if_pos (Decidable.byContradiction (fun c => g (if_neg c)))]), rfl⟩)
  have n2 : ¬ k = txt 55 := fun c => by rw [if_pos c] at g; exact absurd g (by decide)
  refine mw_go mu_g521 (k := 2) (f1 := (36, [(0, .inr (.inr (some s)))], [.inr (.inr (some 1000064)), .inr (.inr (some s))], H)) (C := []) rfl trivial ?_
  refine mw_cS rfl (by decide) h.1 (sb_equals (d := d) h (sb_lit (j := 64) hot (by decide)) hk (Nat.lt_trans (txt_len 64 (by decide)) (by decide))) (fun x H1 e => ?_)
  rw [e.1, e.2]
  show mu_W _ mu_m521 (39, [(0, .inr (.inr (some s)))], [.inl (if k = txt 64 then 1 else 0)], H) _
  refine mw_if (P := (if k = txt 64 then (1 : Int32) else 0) = 0) (a := 44) (b := 42) (fun _ => rfl) trivial (fun g => ?_) (fun g => ?_)
  rotate_left
  · -- 42
    refine mw_go mu_g521 (k := 1) (f1 := (43, [(0, .inr (.inr (some s)))], [.inl (4 : Int32)], H)) (C := []) rfl trivial ?_
    exact mw_of (fun _ => mu_ret rfl trivial ⟨_, _, rfl, (by unfold cof; rw [if_neg n0, if_neg n1, if_neg n2, if_pos (Decidable.byContradiction (fun c => g (if_neg c)))]), rfl⟩)
  have n3 : ¬ k = txt 64 := fun c => by rw [if_pos c] at g; exact absurd g (by decide)
  refine mw_go mu_g521 (k := 2) (f1 := (47, [(0, .inr (.inr (some s)))], [.inr (.inr (some 1000033)), .inr (.inr (some s))], H)) (C := []) rfl trivial ?_
  refine mw_cS rfl (by decide) h.1 (sb_equals (d := d) h (sb_lit (j := 33) hot (by decide)) hk (Nat.lt_trans (txt_len 33 (by decide)) (by decide))) (fun x H1 e => ?_)
  rw [e.1, e.2]
  show mu_W _ mu_m521 (50, [(0, .inr (.inr (some s)))], [.inl (if k = txt 33 then 1 else 0)], H) _
  refine mw_if (P := (if k = txt 33 then (1 : Int32) else 0) = 0) (a := 55) (b := 53) (fun _ => rfl) trivial (fun g => ?_) (fun g => ?_)
  rotate_left
  · -- 53
    refine mw_go mu_g521 (k := 1) (f1 := (54, [(0, .inr (.inr (some s)))], [.inl (5 : Int32)], H)) (C := []) rfl trivial ?_
    exact mw_of (fun _ => mu_ret rfl trivial ⟨_, _, rfl, (by unfold cof; rw [if_neg n0, if_neg n1, if_neg n2, if_neg n3, if_pos (Decidable.byContradiction (fun c => g (if_neg c)))]), rfl⟩)
  have n4 : ¬ k = txt 33 := fun c => by rw [if_pos c] at g; exact absurd g (by decide)
  refine mw_go mu_g521 (k := 2) (f1 := (58, [(0, .inr (.inr (some s)))], [.inr (.inr (some 1000018)), .inr (.inr (some s))], H)) (C := []) rfl trivial ?_
  refine mw_cS rfl (by decide) h.1 (sb_equals (d := d) h (sb_lit (j := 18) hot (by decide)) hk (Nat.lt_trans (txt_len 18 (by decide)) (by decide))) (fun x H1 e => ?_)
  rw [e.1, e.2]
  show mu_W _ mu_m521 (61, [(0, .inr (.inr (some s)))], [.inl (if k = txt 18 then 1 else 0)], H) _
  refine mw_if (P := (if k = txt 18 then (1 : Int32) else 0) = 0) (a := 67) (b := 64) (fun _ => rfl) trivial (fun g => ?_) (fun g => ?_)
  rotate_left
  · -- 64
    refine mw_go mu_g521 (k := 1) (f1 := (66, [(0, .inr (.inr (some s)))], [.inl (6 : Int32)], H)) (C := []) rfl trivial ?_
    exact mw_of (fun _ => mu_ret rfl trivial ⟨_, _, rfl, (by unfold cof; rw [if_neg n0, if_neg n1, if_neg n2, if_neg n3, if_neg n4, if_pos (Decidable.byContradiction (fun c => g (if_neg c)))]), rfl⟩)
  have n5 : ¬ k = txt 18 := fun c => by rw [if_pos c] at g; exact absurd g (by decide)
  refine mw_go mu_g521 (k := 2) (f1 := (70, [(0, .inr (.inr (some s)))], [.inr (.inr (some 1000065)), .inr (.inr (some s))], H)) (C := []) rfl trivial ?_
  refine mw_cS rfl (by decide) h.1 (sb_equals (d := d) h (sb_lit (j := 65) hot (by decide)) hk (Nat.lt_trans (txt_len 65 (by decide)) (by decide))) (fun x H1 e => ?_)
  rw [e.1, e.2]
  show mu_W _ mu_m521 (73, [(0, .inr (.inr (some s)))], [.inl (if k = txt 65 then 1 else 0)], H) _
  refine mw_if (P := (if k = txt 65 then (1 : Int32) else 0) = 0) (a := 79) (b := 76) (fun _ => rfl) trivial (fun g => ?_) (fun g => ?_)
  rotate_left
  · -- 76
    refine mw_go mu_g521 (k := 1) (f1 := (78, [(0, .inr (.inr (some s)))], [.inl (7 : Int32)], H)) (C := []) rfl trivial ?_
    exact mw_of (fun _ => mu_ret rfl trivial ⟨_, _, rfl, (by unfold cof; rw [if_neg n0, if_neg n1, if_neg n2, if_neg n3, if_neg n4, if_neg n5, if_pos (Decidable.byContradiction (fun c => g (if_neg c)))]), rfl⟩)
  have n6 : ¬ k = txt 65 := fun c => by rw [if_pos c] at g; exact absurd g (by decide)
  refine mw_go mu_g521 (k := 2) (f1 := (82, [(0, .inr (.inr (some s)))], [.inr (.inr (some 1000002)), .inr (.inr (some s))], H)) (C := []) rfl trivial ?_
  refine mw_cS rfl (by decide) h.1 (sb_equals (d := d) h (sb_lit (j := 2) hot (by decide)) hk (Nat.lt_trans (txt_len 2 (by decide)) (by decide))) (fun x H1 e => ?_)
  rw [e.1, e.2]
  show mu_W _ mu_m521 (85, [(0, .inr (.inr (some s)))], [.inl (if k = txt 2 then 1 else 0)], H) _
  refine mw_if (P := (if k = txt 2 then (1 : Int32) else 0) = 0) (a := 91) (b := 88) (fun _ => rfl) trivial (fun g => ?_) (fun g => ?_)
  rotate_left
  · -- 88
    refine mw_go mu_g521 (k := 1) (f1 := (90, [(0, .inr (.inr (some s)))], [.inl (8 : Int32)], H)) (C := []) rfl trivial ?_
    exact mw_of (fun _ => mu_ret rfl trivial ⟨_, _, rfl, (by unfold cof; rw [if_neg n0, if_neg n1, if_neg n2, if_neg n3, if_neg n4, if_neg n5, if_neg n6, if_pos (Decidable.byContradiction (fun c => g (if_neg c)))]), rfl⟩)
  have n7 : ¬ k = txt 2 := fun c => by rw [if_pos c] at g; exact absurd g (by decide)
  refine mw_go mu_g521 (k := 2) (f1 := (94, [(0, .inr (.inr (some s)))], [.inr (.inr (some 1000019)), .inr (.inr (some s))], H)) (C := []) rfl trivial ?_
  refine mw_cS rfl (by decide) h.1 (sb_equals (d := d) h (sb_lit (j := 19) hot (by decide)) hk (Nat.lt_trans (txt_len 19 (by decide)) (by decide))) (fun x H1 e => ?_)
  rw [e.1, e.2]
  show mu_W _ mu_m521 (97, [(0, .inr (.inr (some s)))], [.inl (if k = txt 19 then 1 else 0)], H) _
  refine mw_if (P := (if k = txt 19 then (1 : Int32) else 0) = 0) (a := 103) (b := 100) (fun _ => rfl) trivial (fun g => ?_) (fun g => ?_)
  rotate_left
  · -- 100
    refine mw_go mu_g521 (k := 1) (f1 := (102, [(0, .inr (.inr (some s)))], [.inl (9 : Int32)], H)) (C := []) rfl trivial ?_
    exact mw_of (fun _ => mu_ret rfl trivial ⟨_, _, rfl, (by unfold cof; rw [if_neg n0, if_neg n1, if_neg n2, if_neg n3, if_neg n4, if_neg n5, if_neg n6, if_neg n7, if_pos (Decidable.byContradiction (fun c => g (if_neg c)))]), rfl⟩)
  have n8 : ¬ k = txt 19 := fun c => by rw [if_pos c] at g; exact absurd g (by decide)
  refine mw_go mu_g521 (k := 2) (f1 := (106, [(0, .inr (.inr (some s)))], [.inr (.inr (some 1000001)), .inr (.inr (some s))], H)) (C := []) rfl trivial ?_
  refine mw_cS rfl (by decide) h.1 (sb_equals (d := d) h (sb_lit (j := 1) hot (by decide)) hk (Nat.lt_trans (txt_len 1 (by decide)) (by decide))) (fun x H1 e => ?_)
  rw [e.1, e.2]
  show mu_W _ mu_m521 (109, [(0, .inr (.inr (some s)))], [.inl (if k = txt 1 then 1 else 0)], H) _
  refine mw_if (P := (if k = txt 1 then (1 : Int32) else 0) = 0) (a := 115) (b := 112) (fun _ => rfl) trivial (fun g => ?_) (fun g => ?_)
  rotate_left
  · -- 112
    refine mw_go mu_g521 (k := 1) (f1 := (114, [(0, .inr (.inr (some s)))], [.inl (10 : Int32)], H)) (C := []) rfl trivial ?_
    exact mw_of (fun _ => mu_ret rfl trivial ⟨_, _, rfl, (by unfold cof; rw [if_neg n0, if_neg n1, if_neg n2, if_neg n3, if_neg n4, if_neg n5, if_neg n6, if_neg n7, if_neg n8, if_pos (Decidable.byContradiction (fun c => g (if_neg c)))]), rfl⟩)
  have n9 : ¬ k = txt 1 := fun c => by rw [if_pos c] at g; exact absurd g (by decide)
  refine mw_go mu_g521 (k := 2) (f1 := (118, [(0, .inr (.inr (some s)))], [.inr (.inr (some 1000052)), .inr (.inr (some s))], H)) (C := []) rfl trivial ?_
  refine mw_cS rfl (by decide) h.1 (sb_equals (d := d) h (sb_lit (j := 52) hot (by decide)) hk (Nat.lt_trans (txt_len 52 (by decide)) (by decide))) (fun x H1 e => ?_)
  rw [e.1, e.2]
  show mu_W _ mu_m521 (121, [(0, .inr (.inr (some s)))], [.inl (if k = txt 52 then 1 else 0)], H) _
  refine mw_if (P := (if k = txt 52 then (1 : Int32) else 0) = 0) (a := 127) (b := 124) (fun _ => rfl) trivial (fun g => ?_) (fun g => ?_)
  rotate_left
  · -- 124
    refine mw_go mu_g521 (k := 1) (f1 := (126, [(0, .inr (.inr (some s)))], [.inl (11 : Int32)], H)) (C := []) rfl trivial ?_
    exact mw_of (fun _ => mu_ret rfl trivial ⟨_, _, rfl, (by unfold cof; rw [if_neg n0, if_neg n1, if_neg n2, if_neg n3, if_neg n4, if_neg n5, if_neg n6, if_neg n7, if_neg n8, if_neg n9, if_pos (Decidable.byContradiction (fun c => g (if_neg c)))]), rfl⟩)
  have n10 : ¬ k = txt 52 := fun c => by rw [if_pos c] at g; exact absurd g (by decide)
  refine mw_go mu_g521 (k := 2) (f1 := (130, [(0, .inr (.inr (some s)))], [.inr (.inr (some 1000066)), .inr (.inr (some s))], H)) (C := []) rfl trivial ?_
  refine mw_cS rfl (by decide) h.1 (sb_equals (d := d) h (sb_lit (j := 66) hot (by decide)) hk (Nat.lt_trans (txt_len 66 (by decide)) (by decide))) (fun x H1 e => ?_)
  rw [e.1, e.2]
  show mu_W _ mu_m521 (133, [(0, .inr (.inr (some s)))], [.inl (if k = txt 66 then 1 else 0)], H) _
  refine mw_if (P := (if k = txt 66 then (1 : Int32) else 0) = 0) (a := 139) (b := 136) (fun _ => rfl) trivial (fun g => ?_) (fun g => ?_)
  rotate_left
  · -- 136
    refine mw_go mu_g521 (k := 1) (f1 := (138, [(0, .inr (.inr (some s)))], [.inl (12 : Int32)], H)) (C := []) rfl trivial ?_
    exact mw_of (fun _ => mu_ret rfl trivial ⟨_, _, rfl, (by unfold cof; rw [if_neg n0, if_neg n1, if_neg n2, if_neg n3, if_neg n4, if_neg n5, if_neg n6, if_neg n7, if_neg n8, if_neg n9, if_neg n10, if_pos (Decidable.byContradiction (fun c => g (if_neg c)))]), rfl⟩)
  have n11 : ¬ k = txt 66 := fun c => by rw [if_pos c] at g; exact absurd g (by decide)
  refine mw_go mu_g521 (k := 2) (f1 := (142, [(0, .inr (.inr (some s)))], [.inr (.inr (some 1000021)), .inr (.inr (some s))], H)) (C := []) rfl trivial ?_
  refine mw_cS rfl (by decide) h.1 (sb_equals (d := d) h (sb_lit (j := 21) hot (by decide)) hk (Nat.lt_trans (txt_len 21 (by decide)) (by decide))) (fun x H1 e => ?_)
  rw [e.1, e.2]
  show mu_W _ mu_m521 (145, [(0, .inr (.inr (some s)))], [.inl (if k = txt 21 then 1 else 0)], H) _
  refine mw_if (P := (if k = txt 21 then (1 : Int32) else 0) = 0) (a := 151) (b := 148) (fun _ => rfl) trivial (fun g => ?_) (fun g => ?_)
  rotate_left
  · -- 148
    refine mw_go mu_g521 (k := 1) (f1 := (150, [(0, .inr (.inr (some s)))], [.inl (13 : Int32)], H)) (C := []) rfl trivial ?_
    exact mw_of (fun _ => mu_ret rfl trivial ⟨_, _, rfl, (by unfold cof; rw [if_neg n0, if_neg n1, if_neg n2, if_neg n3, if_neg n4, if_neg n5, if_neg n6, if_neg n7, if_neg n8, if_neg n9, if_neg n10, if_neg n11, if_pos (Decidable.byContradiction (fun c => g (if_neg c)))]), rfl⟩)
  have n12 : ¬ k = txt 21 := fun c => by rw [if_pos c] at g; exact absurd g (by decide)
  refine mw_go mu_g521 (k := 2) (f1 := (154, [(0, .inr (.inr (some s)))], [.inr (.inr (some 1000005)), .inr (.inr (some s))], H)) (C := []) rfl trivial ?_
  refine mw_cS rfl (by decide) h.1 (sb_equals (d := d) h (sb_lit (j := 5) hot (by decide)) hk (Nat.lt_trans (txt_len 5 (by decide)) (by decide))) (fun x H1 e => ?_)
  rw [e.1, e.2]
  show mu_W _ mu_m521 (157, [(0, .inr (.inr (some s)))], [.inl (if k = txt 5 then 1 else 0)], H) _
  refine mw_if (P := (if k = txt 5 then (1 : Int32) else 0) = 0) (a := 163) (b := 160) (fun _ => rfl) trivial (fun g => ?_) (fun g => ?_)
  rotate_left
  · -- 160
    refine mw_go mu_g521 (k := 1) (f1 := (162, [(0, .inr (.inr (some s)))], [.inl (14 : Int32)], H)) (C := []) rfl trivial ?_
    exact mw_of (fun _ => mu_ret rfl trivial ⟨_, _, rfl, (by unfold cof; rw [if_neg n0, if_neg n1, if_neg n2, if_neg n3, if_neg n4, if_neg n5, if_neg n6, if_neg n7, if_neg n8, if_neg n9, if_neg n10, if_neg n11, if_neg n12, if_pos (Decidable.byContradiction (fun c => g (if_neg c)))]), rfl⟩)
  have n13 : ¬ k = txt 5 := fun c => by rw [if_pos c] at g; exact absurd g (by decide)
  refine mw_go mu_g521 (k := 2) (f1 := (166, [(0, .inr (.inr (some s)))], [.inr (.inr (some 1000022)), .inr (.inr (some s))], H)) (C := []) rfl trivial ?_
  refine mw_cS rfl (by decide) h.1 (sb_equals (d := d) h (sb_lit (j := 22) hot (by decide)) hk (Nat.lt_trans (txt_len 22 (by decide)) (by decide))) (fun x H1 e => ?_)
  rw [e.1, e.2]
  show mu_W _ mu_m521 (169, [(0, .inr (.inr (some s)))], [.inl (if k = txt 22 then 1 else 0)], H) _
  refine mw_if (P := (if k = txt 22 then (1 : Int32) else 0) = 0) (a := 175) (b := 172) (fun _ => rfl) trivial (fun g => ?_) (fun g => ?_)
  rotate_left
  · -- 172
    refine mw_go mu_g521 (k := 1) (f1 := (174, [(0, .inr (.inr (some s)))], [.inl (15 : Int32)], H)) (C := []) rfl trivial ?_
    exact mw_of (fun _ => mu_ret rfl trivial ⟨_, _, rfl, (by unfold cof; rw [if_neg n0, if_neg n1, if_neg n2, if_neg n3, if_neg n4, if_neg n5, if_neg n6, if_neg n7, if_neg n8, if_neg n9, if_neg n10, if_neg n11, if_neg n12, if_neg n13, if_pos (Decidable.byContradiction (fun c => g (if_neg c)))]), rfl⟩)
  have n14 : ¬ k = txt 22 := fun c => by rw [if_pos c] at g; exact absurd g (by decide)
  refine mw_go mu_g521 (k := 2) (f1 := (178, [(0, .inr (.inr (some s)))], [.inr (.inr (some 1000006)), .inr (.inr (some s))], H)) (C := []) rfl trivial ?_
  refine mw_cS rfl (by decide) h.1 (sb_equals (d := d) h (sb_lit (j := 6) hot (by decide)) hk (Nat.lt_trans (txt_len 6 (by decide)) (by decide))) (fun x H1 e => ?_)
  rw [e.1, e.2]
  show mu_W _ mu_m521 (181, [(0, .inr (.inr (some s)))], [.inl (if k = txt 6 then 1 else 0)], H) _
  refine mw_if (P := (if k = txt 6 then (1 : Int32) else 0) = 0) (a := 187) (b := 184) (fun _ => rfl) trivial (fun g => ?_) (fun g => ?_)
  rotate_left
  · -- 184
    refine mw_go mu_g521 (k := 1) (f1 := (186, [(0, .inr (.inr (some s)))], [.inl (16 : Int32)], H)) (C := []) rfl trivial ?_
    exact mw_of (fun _ => mu_ret rfl trivial ⟨_, _, rfl, (by unfold cof; rw [if_neg n0, if_neg n1, if_neg n2, if_neg n3, if_neg n4, if_neg n5, if_neg n6, if_neg n7, if_neg n8, if_neg n9, if_neg n10, if_neg n11, if_neg n12, if_neg n13, if_neg n14, if_pos (Decidable.byContradiction (fun c => g (if_neg c)))]), rfl⟩)
  have n15 : ¬ k = txt 6 := fun c => by rw [if_pos c] at g; exact absurd g (by decide)
  refine mw_go mu_g521 (k := 2) (f1 := (190, [(0, .inr (.inr (some s)))], [.inr (.inr (some 1000023)), .inr (.inr (some s))], H)) (C := []) rfl trivial ?_
  refine mw_cS rfl (by decide) h.1 (sb_equals (d := d) h (sb_lit (j := 23) hot (by decide)) hk (Nat.lt_trans (txt_len 23 (by decide)) (by decide))) (fun x H1 e => ?_)
  rw [e.1, e.2]
  show mu_W _ mu_m521 (193, [(0, .inr (.inr (some s)))], [.inl (if k = txt 23 then 1 else 0)], H) _
  refine mw_if (P := (if k = txt 23 then (1 : Int32) else 0) = 0) (a := 199) (b := 196) (fun _ => rfl) trivial (fun g => ?_) (fun g => ?_)
  rotate_left
  · -- 196
    refine mw_go mu_g521 (k := 1) (f1 := (198, [(0, .inr (.inr (some s)))], [.inl (17 : Int32)], H)) (C := []) rfl trivial ?_
    exact mw_of (fun _ => mu_ret rfl trivial ⟨_, _, rfl, (by unfold cof; rw [if_neg n0, if_neg n1, if_neg n2, if_neg n3, if_neg n4, if_neg n5, if_neg n6, if_neg n7, if_neg n8, if_neg n9, if_neg n10, if_neg n11, if_neg n12, if_neg n13, if_neg n14, if_neg n15, if_pos (Decidable.byContradiction (fun c => g (if_neg c)))]), rfl⟩)
  have n16 : ¬ k = txt 23 := fun c => by rw [if_pos c] at g; exact absurd g (by decide)
  refine mw_go mu_g521 (k := 2) (f1 := (202, [(0, .inr (.inr (some s)))], [.inr (.inr (some 1000007)), .inr (.inr (some s))], H)) (C := []) rfl trivial ?_
  refine mw_cS rfl (by decide) h.1 (sb_equals (d := d) h (sb_lit (j := 7) hot (by decide)) hk (Nat.lt_trans (txt_len 7 (by decide)) (by decide))) (fun x H1 e => ?_)
  rw [e.1, e.2]
  show mu_W _ mu_m521 (205, [(0, .inr (.inr (some s)))], [.inl (if k = txt 7 then 1 else 0)], H) _
  refine mw_if (P := (if k = txt 7 then (1 : Int32) else 0) = 0) (a := 211) (b := 208) (fun _ => rfl) trivial (fun g => ?_) (fun g => ?_)
  rotate_left
  · -- 208
    refine mw_go mu_g521 (k := 1) (f1 := (210, [(0, .inr (.inr (some s)))], [.inl (18 : Int32)], H)) (C := []) rfl trivial ?_
    exact mw_of (fun _ => mu_ret rfl trivial ⟨_, _, rfl, (by unfold cof; rw [if_neg n0, if_neg n1, if_neg n2, if_neg n3, if_neg n4, if_neg n5, if_neg n6, if_neg n7, if_neg n8, if_neg n9, if_neg n10, if_neg n11, if_neg n12, if_neg n13, if_neg n14, if_neg n15, if_neg n16, if_pos (Decidable.byContradiction (fun c => g (if_neg c)))]), rfl⟩)
  have n17 : ¬ k = txt 7 := fun c => by rw [if_pos c] at g; exact absurd g (by decide)
  refine mw_go mu_g521 (k := 2) (f1 := (214, [(0, .inr (.inr (some s)))], [.inr (.inr (some 1000050)), .inr (.inr (some s))], H)) (C := []) rfl trivial ?_
  refine mw_cS rfl (by decide) h.1 (sb_equals (d := d) h (sb_lit (j := 50) hot (by decide)) hk (Nat.lt_trans (txt_len 50 (by decide)) (by decide))) (fun x H1 e => ?_)
  rw [e.1, e.2]
  show mu_W _ mu_m521 (217, [(0, .inr (.inr (some s)))], [.inl (if k = txt 50 then 1 else 0)], H) _
  refine mw_if (P := (if k = txt 50 then (1 : Int32) else 0) = 0) (a := 223) (b := 220) (fun _ => rfl) trivial (fun g => ?_) (fun g => ?_)
  rotate_left
  · -- 220
    refine mw_go mu_g521 (k := 1) (f1 := (222, [(0, .inr (.inr (some s)))], [.inl (19 : Int32)], H)) (C := []) rfl trivial ?_
    exact mw_of (fun _ => mu_ret rfl trivial ⟨_, _, rfl, (by unfold cof; rw [if_neg n0, if_neg n1, if_neg n2, if_neg n3, if_neg n4, if_neg n5, if_neg n6, if_neg n7, if_neg n8, if_neg n9, if_neg n10, if_neg n11, if_neg n12, if_neg n13, if_neg n14, if_neg n15, if_neg n16, if_neg n17, if_pos (Decidable.byContradiction (fun c => g (if_neg c)))]), rfl⟩)
  have n18 : ¬ k = txt 50 := fun c => by rw [if_pos c] at g; exact absurd g (by decide)
  refine mw_go mu_g521 (k := 2) (f1 := (226, [(0, .inr (.inr (some s)))], [.inr (.inr (some 1000020)), .inr (.inr (some s))], H)) (C := []) rfl trivial ?_
  refine mw_cS rfl (by decide) h.1 (sb_equals (d := d) h (sb_lit (j := 20) hot (by decide)) hk (Nat.lt_trans (txt_len 20 (by decide)) (by decide))) (fun x H1 e => ?_)
  rw [e.1, e.2]
  show mu_W _ mu_m521 (229, [(0, .inr (.inr (some s)))], [.inl (if k = txt 20 then 1 else 0)], H) _
  refine mw_if (P := (if k = txt 20 then (1 : Int32) else 0) = 0) (a := 235) (b := 232) (fun _ => rfl) trivial (fun g => ?_) (fun g => ?_)
  rotate_left
  · -- 232
    refine mw_go mu_g521 (k := 1) (f1 := (234, [(0, .inr (.inr (some s)))], [.inl (20 : Int32)], H)) (C := []) rfl trivial ?_
    exact mw_of (fun _ => mu_ret rfl trivial ⟨_, _, rfl, (by unfold cof; rw [if_neg n0, if_neg n1, if_neg n2, if_neg n3, if_neg n4, if_neg n5, if_neg n6, if_neg n7, if_neg n8, if_neg n9, if_neg n10, if_neg n11, if_neg n12, if_neg n13, if_neg n14, if_neg n15, if_neg n16, if_neg n17, if_neg n18, if_pos (Decidable.byContradiction (fun c => g (if_neg c)))]), rfl⟩)
  have n19 : ¬ k = txt 20 := fun c => by rw [if_pos c] at g; exact absurd g (by decide)
  refine mw_go mu_g521 (k := 2) (f1 := (238, [(0, .inr (.inr (some s)))], [.inr (.inr (some 1000040)), .inr (.inr (some s))], H)) (C := []) rfl trivial ?_
  refine mw_cS rfl (by decide) h.1 (sb_equals (d := d) h (sb_lit (j := 40) hot (by decide)) hk (Nat.lt_trans (txt_len 40 (by decide)) (by decide))) (fun x H1 e => ?_)
  rw [e.1, e.2]
  show mu_W _ mu_m521 (241, [(0, .inr (.inr (some s)))], [.inl (if k = txt 40 then 1 else 0)], H) _
  refine mw_if (P := (if k = txt 40 then (1 : Int32) else 0) = 0) (a := 247) (b := 244) (fun _ => rfl) trivial (fun g => ?_) (fun g => ?_)
  rotate_left
  · -- 244
    refine mw_go mu_g521 (k := 1) (f1 := (246, [(0, .inr (.inr (some s)))], [.inl (21 : Int32)], H)) (C := []) rfl trivial ?_
    exact mw_of (fun _ => mu_ret rfl trivial ⟨_, _, rfl, (by unfold cof; rw [if_neg n0, if_neg n1, if_neg n2, if_neg n3, if_neg n4, if_neg n5, if_neg n6, if_neg n7, if_neg n8, if_neg n9, if_neg n10, if_neg n11, if_neg n12, if_neg n13, if_neg n14, if_neg n15, if_neg n16, if_neg n17, if_neg n18, if_neg n19, if_pos (Decidable.byContradiction (fun c => g (if_neg c)))]), rfl⟩)
  have n20 : ¬ k = txt 40 := fun c => by rw [if_pos c] at g; exact absurd g (by decide)
  refine mw_go mu_g521 (k := 2) (f1 := (250, [(0, .inr (.inr (some s)))], [.inr (.inr (some 1000024)), .inr (.inr (some s))], H)) (C := []) rfl trivial ?_
  refine mw_cS rfl (by decide) h.1 (sb_equals (d := d) h (sb_lit (j := 24) hot (by decide)) hk (Nat.lt_trans (txt_len 24 (by decide)) (by decide))) (fun x H1 e => ?_)
  rw [e.1, e.2]
  show mu_W _ mu_m521 (253, [(0, .inr (.inr (some s)))], [.inl (if k = txt 24 then 1 else 0)], H) _
  refine mw_if (P := (if k = txt 24 then (1 : Int32) else 0) = 0) (a := 259) (b := 256) (fun _ => rfl) trivial (fun g => ?_) (fun g => ?_)
  rotate_left
  · -- 256
    refine mw_go mu_g521 (k := 1) (f1 := (258, [(0, .inr (.inr (some s)))], [.inl (22 : Int32)], H)) (C := []) rfl trivial ?_
    exact mw_of (fun _ => mu_ret rfl trivial ⟨_, _, rfl, (by unfold cof; rw [if_neg n0, if_neg n1, if_neg n2, if_neg n3, if_neg n4, if_neg n5, if_neg n6, if_neg n7, if_neg n8, if_neg n9, if_neg n10, if_neg n11, if_neg n12, if_neg n13, if_neg n14, if_neg n15, if_neg n16, if_neg n17, if_neg n18, if_neg n19, if_neg n20, if_pos (Decidable.byContradiction (fun c => g (if_neg c)))]), rfl⟩)
  have n21 : ¬ k = txt 24 := fun c => by rw [if_pos c] at g; exact absurd g (by decide)
  refine mw_go mu_g521 (k := 2) (f1 := (262, [(0, .inr (.inr (some s)))], [.inr (.inr (some 1000025)), .inr (.inr (some s))], H)) (C := []) rfl trivial ?_
  refine mw_cS rfl (by decide) h.1 (sb_equals (d := d) h (sb_lit (j := 25) hot (by decide)) hk (Nat.lt_trans (txt_len 25 (by decide)) (by decide))) (fun x H1 e => ?_)
  rw [e.1, e.2]
  show mu_W _ mu_m521 (265, [(0, .inr (.inr (some s)))], [.inl (if k = txt 25 then 1 else 0)], H) _
  refine mw_if (P := (if k = txt 25 then (1 : Int32) else 0) = 0) (a := 271) (b := 268) (fun _ => rfl) trivial (fun g => ?_) (fun g => ?_)
  rotate_left
  · -- 268
    refine mw_go mu_g521 (k := 1) (f1 := (270, [(0, .inr (.inr (some s)))], [.inl (23 : Int32)], H)) (C := []) rfl trivial ?_
    exact mw_of (fun _ => mu_ret rfl trivial ⟨_, _, rfl, (by unfold cof; rw [if_neg n0, if_neg n1, if_neg n2, if_neg n3, if_neg n4, if_neg n5, if_neg n6, if_neg n7, if_neg n8, if_neg n9, if_neg n10, if_neg n11, if_neg n12, if_neg n13, if_neg n14, if_neg n15, if_neg n16, if_neg n17, if_neg n18, if_neg n19, if_neg n20, if_neg n21, if_pos (Decidable.byContradiction (fun c => g (if_neg c)))]), rfl⟩)
  have n22 : ¬ k = txt 25 := fun c => by rw [if_pos c] at g; exact absurd g (by decide)
  refine mw_go mu_g521 (k := 2) (f1 := (274, [(0, .inr (.inr (some s)))], [.inr (.inr (some 1000026)), .inr (.inr (some s))], H)) (C := []) rfl trivial ?_
  refine mw_cS rfl (by decide) h.1 (sb_equals (d := d) h (sb_lit (j := 26) hot (by decide)) hk (Nat.lt_trans (txt_len 26 (by decide)) (by decide))) (fun x H1 e => ?_)
  rw [e.1, e.2]
  show mu_W _ mu_m521 (277, [(0, .inr (.inr (some s)))], [.inl (if k = txt 26 then 1 else 0)], H) _
  refine mw_if (P := (if k = txt 26 then (1 : Int32) else 0) = 0) (a := 283) (b := 280) (fun _ => rfl) trivial (fun g => ?_) (fun g => ?_)
  rotate_left
  · -- 280
    refine mw_go mu_g521 (k := 1) (f1 := (282, [(0, .inr (.inr (some s)))], [.inl (24 : Int32)], H)) (C := []) rfl trivial ?_
    exact mw_of (fun _ => mu_ret rfl trivial ⟨_, _, rfl, (by unfold cof; rw [if_neg n0, if_neg n1, if_neg n2, if_neg n3, if_neg n4, if_neg n5, if_neg n6, if_neg n7, if_neg n8, if_neg n9, if_neg n10, if_neg n11, if_neg n12, if_neg n13, if_neg n14, if_neg n15, if_neg n16, if_neg n17, if_neg n18, if_neg n19, if_neg n20, if_neg n21, if_neg n22, if_pos (Decidable.byContradiction (fun c => g (if_neg c)))]), rfl⟩)
  have n23 : ¬ k = txt 26 := fun c => by rw [if_pos c] at g; exact absurd g (by decide)
  refine mw_go mu_g521 (k := 2) (f1 := (286, [(0, .inr (.inr (some s)))], [.inr (.inr (some 1000027)), .inr (.inr (some s))], H)) (C := []) rfl trivial ?_
  refine mw_cS rfl (by decide) h.1 (sb_equals (d := d) h (sb_lit (j := 27) hot (by decide)) hk (Nat.lt_trans (txt_len 27 (by decide)) (by decide))) (fun x H1 e => ?_)
  rw [e.1, e.2]
  show mu_W _ mu_m521 (289, [(0, .inr (.inr (some s)))], [.inl (if k = txt 27 then 1 else 0)], H) _
  refine mw_if (P := (if k = txt 27 then (1 : Int32) else 0) = 0) (a := 295) (b := 292) (fun _ => rfl) trivial (fun g => ?_) (fun g => ?_)
  rotate_left
  · -- 292
    refine mw_go mu_g521 (k := 1) (f1 := (294, [(0, .inr (.inr (some s)))], [.inl (25 : Int32)], H)) (C := []) rfl trivial ?_
    exact mw_of (fun _ => mu_ret rfl trivial ⟨_, _, rfl, (by unfold cof; rw [if_neg n0, if_neg n1, if_neg n2, if_neg n3, if_neg n4, if_neg n5, if_neg n6, if_neg n7, if_neg n8, if_neg n9, if_neg n10, if_neg n11, if_neg n12, if_neg n13, if_neg n14, if_neg n15, if_neg n16, if_neg n17, if_neg n18, if_neg n19, if_neg n20, if_neg n21, if_neg n22, if_neg n23, if_pos (Decidable.byContradiction (fun c => g (if_neg c)))]), rfl⟩)
  have n24 : ¬ k = txt 27 := fun c => by rw [if_pos c] at g; exact absurd g (by decide)
  refine mw_go mu_g521 (k := 2) (f1 := (298, [(0, .inr (.inr (some s)))], [.inr (.inr (some 1000051)), .inr (.inr (some s))], H)) (C := []) rfl trivial ?_
  refine mw_cS rfl (by decide) h.1 (sb_equals (d := d) h (sb_lit (j := 51) hot (by decide)) hk (Nat.lt_trans (txt_len 51 (by decide)) (by decide))) (fun x H1 e => ?_)
  rw [e.1, e.2]
  show mu_W _ mu_m521 (301, [(0, .inr (.inr (some s)))], [.inl (if k = txt 51 then 1 else 0)], H) _
  refine mw_if (P := (if k = txt 51 then (1 : Int32) else 0) = 0) (a := 307) (b := 304) (fun _ => rfl) trivial (fun g => ?_) (fun g => ?_)
  rotate_left
  · -- 304
    refine mw_go mu_g521 (k := 1) (f1 := (306, [(0, .inr (.inr (some s)))], [.inl (26 : Int32)], H)) (C := []) rfl trivial ?_
    exact mw_of (fun _ => mu_ret rfl trivial ⟨_, _, rfl, (by unfold cof; rw [if_neg n0, if_neg n1, if_neg n2, if_neg n3, if_neg n4, if_neg n5, if_neg n6, if_neg n7, if_neg n8, if_neg n9, if_neg n10, if_neg n11, if_neg n12, if_neg n13, if_neg n14, if_neg n15, if_neg n16, if_neg n17, if_neg n18, if_neg n19, if_neg n20, if_neg n21, if_neg n22, if_neg n23, if_neg n24, if_pos (Decidable.byContradiction (fun c => g (if_neg c)))]), rfl⟩)
  have n25 : ¬ k = txt 51 := fun c => by rw [if_pos c] at g; exact absurd g (by decide)
  refine mw_go mu_g521 (k := 2) (f1 := (310, [(0, .inr (.inr (some s)))], [.inr (.inr (some 1000041)), .inr (.inr (some s))], H)) (C := []) rfl trivial ?_
  refine mw_cS rfl (by decide) h.1 (sb_equals (d := d) h (sb_lit (j := 41) hot (by decide)) hk (Nat.lt_trans (txt_len 41 (by decide)) (by decide))) (fun x H1 e => ?_)
  rw [e.1, e.2]
  show mu_W _ mu_m521 (313, [(0, .inr (.inr (some s)))], [.inl (if k = txt 41 then 1 else 0)], H) _
  refine mw_if (P := (if k = txt 41 then (1 : Int32) else 0) = 0) (a := 319) (b := 316) (fun _ => rfl) trivial (fun g => ?_) (fun g => ?_)
  rotate_left
  · -- 316
    refine mw_go mu_g521 (k := 1) (f1 := (318, [(0, .inr (.inr (some s)))], [.inl (27 : Int32)], H)) (C := []) rfl trivial ?_
    exact mw_of (fun _ => mu_ret rfl trivial ⟨_, _, rfl, (by unfold cof; rw [if_neg n0, if_neg n1, if_neg n2, if_neg n3, if_neg n4, if_neg n5, if_neg n6, if_neg n7, if_neg n8, if_neg n9, if_neg n10, if_neg n11, if_neg n12, if_neg n13, if_neg n14, if_neg n15, if_neg n16, if_neg n17, if_neg n18, if_neg n19, if_neg n20, if_neg n21, if_neg n22, if_neg n23, if_neg n24, if_neg n25, if_pos (Decidable.byContradiction (fun c => g (if_neg c)))]), rfl⟩)
  have n26 : ¬ k = txt 41 := fun c => by rw [if_pos c] at g; exact absurd g (by decide)
  refine mw_go mu_g521 (k := 2) (f1 := (322, [(0, .inr (.inr (some s)))], [.inr (.inr (some 1000044)), .inr (.inr (some s))], H)) (C := []) rfl trivial ?_
  refine mw_cS rfl (by decide) h.1 (sb_equals (d := d) h (sb_lit (j := 44) hot (by decide)) hk (Nat.lt_trans (txt_len 44 (by decide)) (by decide))) (fun x H1 e => ?_)
  rw [e.1, e.2]
  show mu_W _ mu_m521 (325, [(0, .inr (.inr (some s)))], [.inl (if k = txt 44 then 1 else 0)], H) _
  refine mw_if (P := (if k = txt 44 then (1 : Int32) else 0) = 0) (a := 331) (b := 328) (fun _ => rfl) trivial (fun g => ?_) (fun g => ?_)
  rotate_left
  · -- 328
    refine mw_go mu_g521 (k := 1) (f1 := (330, [(0, .inr (.inr (some s)))], [.inl (28 : Int32)], H)) (C := []) rfl trivial ?_
    exact mw_of (fun _ => mu_ret rfl trivial ⟨_, _, rfl, (by unfold cof; rw [if_neg n0, if_neg n1, if_neg n2, if_neg n3, if_neg n4, if_neg n5, if_neg n6, if_neg n7, if_neg n8, if_neg n9, if_neg n10, if_neg n11, if_neg n12, if_neg n13, if_neg n14, if_neg n15, if_neg n16, if_neg n17, if_neg n18, if_neg n19, if_neg n20, if_neg n21, if_neg n22, if_neg n23, if_neg n24, if_neg n25, if_neg n26, if_pos (Decidable.byContradiction (fun c => g (if_neg c)))]), rfl⟩)
  have n27 : ¬ k = txt 44 := fun c => by rw [if_pos c] at g; exact absurd g (by decide)
  refine mw_go mu_g521 (k := 2) (f1 := (334, [(0, .inr (.inr (some s)))], [.inr (.inr (some 1000042)), .inr (.inr (some s))], H)) (C := []) rfl trivial ?_
  refine mw_cS rfl (by decide) h.1 (sb_equals (d := d) h (sb_lit (j := 42) hot (by decide)) hk (Nat.lt_trans (txt_len 42 (by decide)) (by decide))) (fun x H1 e => ?_)
  rw [e.1, e.2]
  show mu_W _ mu_m521 (337, [(0, .inr (.inr (some s)))], [.inl (if k = txt 42 then 1 else 0)], H) _
  refine mw_if (P := (if k = txt 42 then (1 : Int32) else 0) = 0) (a := 343) (b := 340) (fun _ => rfl) trivial (fun g => ?_) (fun g => ?_)
  rotate_left
  · -- 340
    refine mw_go mu_g521 (k := 1) (f1 := (342, [(0, .inr (.inr (some s)))], [.inl (29 : Int32)], H)) (C := []) rfl trivial ?_
    exact mw_of (fun _ => mu_ret rfl trivial ⟨_, _, rfl, (by unfold cof; rw [if_neg n0, if_neg n1, if_neg n2, if_neg n3, if_neg n4, if_neg n5, if_neg n6, if_neg n7, if_neg n8, if_neg n9, if_neg n10, if_neg n11, if_neg n12, if_neg n13, if_neg n14, if_neg n15, if_neg n16, if_neg n17, if_neg n18, if_neg n19, if_neg n20, if_neg n21, if_neg n22, if_neg n23, if_neg n24, if_neg n25, if_neg n26, if_neg n27, if_pos (Decidable.byContradiction (fun c => g (if_neg c)))]), rfl⟩)
  have n28 : ¬ k = txt 42 := fun c => by rw [if_pos c] at g; exact absurd g (by decide)
  refine mw_go mu_g521 (k := 2) (f1 := (346, [(0, .inr (.inr (some s)))], [.inr (.inr (some 1000046)), .inr (.inr (some s))], H)) (C := []) rfl trivial ?_
  refine mw_cS rfl (by decide) h.1 (sb_equals (d := d) h (sb_lit (j := 46) hot (by decide)) hk (Nat.lt_trans (txt_len 46 (by decide)) (by decide))) (fun x H1 e => ?_)
  rw [e.1, e.2]
  show mu_W _ mu_m521 (349, [(0, .inr (.inr (some s)))], [.inl (if k = txt 46 then 1 else 0)], H) _
  refine mw_if (P := (if k = txt 46 then (1 : Int32) else 0) = 0) (a := 355) (b := 352) (fun _ => rfl) trivial (fun g => ?_) (fun g => ?_)
  rotate_left
  · -- 352
    refine mw_go mu_g521 (k := 1) (f1 := (354, [(0, .inr (.inr (some s)))], [.inl (30 : Int32)], H)) (C := []) rfl trivial ?_
    exact mw_of (fun _ => mu_ret rfl trivial ⟨_, _, rfl, (by unfold cof; rw [if_neg n0, if_neg n1, if_neg n2, if_neg n3, if_neg n4, if_neg n5, if_neg n6, if_neg n7, if_neg n8, if_neg n9, if_neg n10, if_neg n11, if_neg n12, if_neg n13, if_neg n14, if_neg n15, if_neg n16, if_neg n17, if_neg n18, if_neg n19, if_neg n20, if_neg n21, if_neg n22, if_neg n23, if_neg n24, if_neg n25, if_neg n26, if_neg n27, if_neg n28, if_pos (Decidable.byContradiction (fun c => g (if_neg c)))]), rfl⟩)
  have n29 : ¬ k = txt 46 := fun c => by rw [if_pos c] at g; exact absurd g (by decide)
  refine mw_go mu_g521 (k := 2) (f1 := (358, [(0, .inr (.inr (some s)))], [.inr (.inr (some 1000043)), .inr (.inr (some s))], H)) (C := []) rfl trivial ?_
  refine mw_cS rfl (by decide) h.1 (sb_equals (d := d) h (sb_lit (j := 43) hot (by decide)) hk (Nat.lt_trans (txt_len 43 (by decide)) (by decide))) (fun x H1 e => ?_)
  rw [e.1, e.2]
  show mu_W _ mu_m521 (361, [(0, .inr (.inr (some s)))], [.inl (if k = txt 43 then 1 else 0)], H) _
  refine mw_if (P := (if k = txt 43 then (1 : Int32) else 0) = 0) (a := 367) (b := 364) (fun _ => rfl) trivial (fun g => ?_) (fun g => ?_)
  rotate_left
  · -- 364
    refine mw_go mu_g521 (k := 1) (f1 := (366, [(0, .inr (.inr (some s)))], [.inl (31 : Int32)], H)) (C := []) rfl trivial ?_
    exact mw_of (fun _ => mu_ret rfl trivial ⟨_, _, rfl, (by unfold cof; rw [if_neg n0, if_neg n1, if_neg n2, if_neg n3, if_neg n4, if_neg n5, if_neg n6, if_neg n7, if_neg n8, if_neg n9, if_neg n10, if_neg n11, if_neg n12, if_neg n13, if_neg n14, if_neg n15, if_neg n16, if_neg n17, if_neg n18, if_neg n19, if_neg n20, if_neg n21, if_neg n22, if_neg n23, if_neg n24, if_neg n25, if_neg n26, if_neg n27, if_neg n28, if_neg n29, if_pos (Decidable.byContradiction (fun c => g (if_neg c)))]), rfl⟩)
  have n30 : ¬ k = txt 43 := fun c => by rw [if_pos c] at g; exact absurd g (by decide)
  refine mw_go mu_g521 (k := 2) (f1 := (370, [(0, .inr (.inr (some s)))], [.inr (.inr (some 1000045)), .inr (.inr (some s))], H)) (C := []) rfl trivial ?_
  refine mw_cS rfl (by decide) h.1 (sb_equals (d := d) h (sb_lit (j := 45) hot (by decide)) hk (Nat.lt_trans (txt_len 45 (by decide)) (by decide))) (fun x H1 e => ?_)
  rw [e.1, e.2]
  show mu_W _ mu_m521 (373, [(0, .inr (.inr (some s)))], [.inl (if k = txt 45 then 1 else 0)], H) _
  refine mw_if (P := (if k = txt 45 then (1 : Int32) else 0) = 0) (a := 379) (b := 376) (fun _ => rfl) trivial (fun g => ?_) (fun g => ?_)
  rotate_left
  · -- 376
    refine mw_go mu_g521 (k := 1) (f1 := (378, [(0, .inr (.inr (some s)))], [.inl (32 : Int32)], H)) (C := []) rfl trivial ?_
    exact mw_of (fun _ => mu_ret rfl trivial ⟨_, _, rfl, (by unfold cof; rw [if_neg n0, if_neg n1, if_neg n2, if_neg n3, if_neg n4, if_neg n5, if_neg n6, if_neg n7, if_neg n8, if_neg n9, if_neg n10, if_neg n11, if_neg n12, if_neg n13, if_neg n14, if_neg n15, if_neg n16, if_neg n17, if_neg n18, if_neg n19, if_neg n20, if_neg n21, if_neg n22, if_neg n23, if_neg n24, if_neg n25, if_neg n26, if_neg n27, if_neg n28, if_neg n29, if_neg n30, if_pos (Decidable.byContradiction (fun c => g (if_neg c)))]), rfl⟩)
  have n31 : ¬ k = txt 45 := fun c => by rw [if_pos c] at g; exact absurd g (by decide)
  refine mw_go mu_g521 (k := 2) (f1 := (382, [(0, .inr (.inr (some s)))], [.inr (.inr (some 1000047)), .inr (.inr (some s))], H)) (C := []) rfl trivial ?_
  refine mw_cS rfl (by decide) h.1 (sb_equals (d := d) h (sb_lit (j := 47) hot (by decide)) hk (Nat.lt_trans (txt_len 47 (by decide)) (by decide))) (fun x H1 e => ?_)
  rw [e.1, e.2]
  show mu_W _ mu_m521 (385, [(0, .inr (.inr (some s)))], [.inl (if k = txt 47 then 1 else 0)], H) _
  refine mw_if (P := (if k = txt 47 then (1 : Int32) else 0) = 0) (a := 391) (b := 388) (fun _ => rfl) trivial (fun g => ?_) (fun g => ?_)
  rotate_left
  · -- 388
    refine mw_go mu_g521 (k := 1) (f1 := (390, [(0, .inr (.inr (some s)))], [.inl (33 : Int32)], H)) (C := []) rfl trivial ?_
    exact mw_of (fun _ => mu_ret rfl trivial ⟨_, _, rfl, (by unfold cof; rw [if_neg n0, if_neg n1, if_neg n2, if_neg n3, if_neg n4, if_neg n5, if_neg n6, if_neg n7, if_neg n8, if_neg n9, if_neg n10, if_neg n11, if_neg n12, if_neg n13, if_neg n14, if_neg n15, if_neg n16, if_neg n17, if_neg n18, if_neg n19, if_neg n20, if_neg n21, if_neg n22, if_neg n23, if_neg n24, if_neg n25, if_neg n26, if_neg n27, if_neg n28, if_neg n29, if_neg n30, if_neg n31, if_pos (Decidable.byContradiction (fun c => g (if_neg c)))]), rfl⟩)
  have n32 : ¬ k = txt 47 := fun c => by rw [if_pos c] at g; exact absurd g (by decide)
  refine mw_go mu_g521 (k := 2) (f1 := (394, [(0, .inr (.inr (some s)))], [.inr (.inr (some 1000048)), .inr (.inr (some s))], H)) (C := []) rfl trivial ?_
  refine mw_cS rfl (by decide) h.1 (sb_equals (d := d) h (sb_lit (j := 48) hot (by decide)) hk (Nat.lt_trans (txt_len 48 (by decide)) (by decide))) (fun x H1 e => ?_)
  rw [e.1, e.2]
  show mu_W _ mu_m521 (397, [(0, .inr (.inr (some s)))], [.inl (if k = txt 48 then 1 else 0)], H) _
  refine mw_if (P := (if k = txt 48 then (1 : Int32) else 0) = 0) (a := 403) (b := 400) (fun _ => rfl) trivial (fun g => ?_) (fun g => ?_)
  rotate_left
  · -- 400
    refine mw_go mu_g521 (k := 1) (f1 := (402, [(0, .inr (.inr (some s)))], [.inl (34 : Int32)], H)) (C := []) rfl trivial ?_
    exact mw_of (fun _ => mu_ret rfl trivial ⟨_, _, rfl, (by unfold cof; rw [if_neg n0, if_neg n1, if_neg n2, if_neg n3, if_neg n4, if_neg n5, if_neg n6, if_neg n7, if_neg n8, if_neg n9, if_neg n10, if_neg n11, if_neg n12, if_neg n13, if_neg n14, if_neg n15, if_neg n16, if_neg n17, if_neg n18, if_neg n19, if_neg n20, if_neg n21, if_neg n22, if_neg n23, if_neg n24, if_neg n25, if_neg n26, if_neg n27, if_neg n28, if_neg n29, if_neg n30, if_neg n31, if_neg n32, if_pos (Decidable.byContradiction (fun c => g (if_neg c)))]), rfl⟩)
  have n33 : ¬ k = txt 48 := fun c => by rw [if_pos c] at g; exact absurd g (by decide)
  refine mw_go mu_g521 (k := 1) (f1 := (404, [(0, .inr (.inr (some s)))], [.inl (0 : Int32)], H)) (C := []) rfl trivial ?_
  exact mw_of (fun _ => mu_ret rfl trivial ⟨_, _, rfl, (by unfold cof; rw [if_neg n0, if_neg n1, if_neg n2, if_neg n3, if_neg n4, if_neg n5, if_neg n6, if_neg n7, if_neg n8, if_neg n9, if_neg n10, if_neg n11, if_neg n12, if_neg n13, if_neg n14, if_neg n15, if_neg n16, if_neg n17, if_neg n18, if_neg n19, if_neg n20, if_neg n21, if_neg n22, if_neg n23, if_neg n24, if_neg n25, if_neg n26, if_neg n27, if_neg n28, if_neg n29, if_neg n30, if_neg n31, if_neg n32, if_neg n33]), rfl⟩)
theorem nd_is {d q s : Nat} {o : Option Nat} {k k2 : List Int32} {H : mu_H} (hq : mu_is H (some q) 18) (hs : mu_r H q 0 = some s) (h : sb H (some s) k) (hk : k.length < 2 ^ 31) (h2 : sb H o k2) (hk2 : k2.length < 2 ^ 31) : mu_TI (mu_D (d + 3)) 518 [.inr (.inr (some q)), .inr (.inr o)] H (fun x H1 => x = (if k = k2 then 1 else 0) ∧ H1 = H) := by
  refine mu_meth (M := mu_m518) rfl rfl ?_
  refine mw_ht (mu_fn_of (show [0, 1].Nodup by decide)) ?_
  refine mw_go mu_g518 (k := 3) (f1 := (5, [(0, .inr (.inr (some q))), (1, .inr (.inr o))], [.inr (.inr o), .inr (.inr (mu_r H q 0))], H)) (C := [mu_is H (some q) 18]) rfl (show mu_is H (some q) 18 from hq) ?_
  refine mw_fr (f' := (5, [(0, .inr (.inr (some q))), (1, .inr (.inr o))], [.inr (.inr o), .inr (.inr (some s))], H)) (by first | (rw [hs]; done) | (rw [hs]; rfl)) ?_
  refine mw_cS rfl (by decide) h.1 (sb_equals (d := d) h h2 hk hk2) (fun x H1 e => ?_)
  rw [e.1, e.2]
  exact mw_of (fun _ => mu_ret rfl (by split; exact Or.inr rfl; exact Or.inl rfl) ⟨_, _, rfl, rfl, rfl⟩)
theorem nd_isL {d q s j : Nat} {k : List Int32} {H : mu_H} (hq : mu_is H (some q) 18) (hs : mu_r H q 0 = some s) (h : sb H (some s) k) (hk : k.length < 2 ^ 31) (hj : j < 79) : mu_TI (mu_D (d + 3)) 518 [.inr (.inr (some q)), .inr (.inr (some (1000000 + j)))] H (fun x H1 => x = (if k = txt j then 1 else 0) ∧ H1 = H) :=
  mu_MT.ot fun hot => nd_is (d := d) hq hs h hk (sb_lit hot hj) (Nat.lt_trans (txt_len j hj) (by decide))
/-- a Node at q with its parts qs in the row a of c places, its kind the String s of letters k -/
def ndo (H : mu_H) (q a c s : Nat) (k : List Int32) (qs : List Nat) : Prop := (mu_is H (some q) 18 ∧ q < 1000000) ∧ (mu_is H (some a) 109 ∧ a < 1000000) ∧ mu_r H q 0 = some s ∧ mu_r H q 1 = some a ∧ mu_i H q 2 = nI qs.length ∧ mu_i H q 7 = cof k ∧ (mu_n H a = c ∧ qs.length ≤ c ∧ 2 ≤ c ∧ (c ≤ 2 * qs.length + 2 ∧ c ≤ 2 ^ 21)) ∧ ∀ i, i < qs.length → mu_r H a i = some (qs.getD i 0) ∧ mu_is H (some (qs.getD i 0)) 18
theorem sb.nq {H : mu_H} {s q : Nat} {k : List Int32} (h : sb H (some s) k) (hq : mu_k H q = 18) (h2 : q < 1000000) : s ≠ q ∧ mu_p (sbv H (some s)) ≠ q := by
  refine ⟨fun e => ?_, fun e => ?_⟩
  · rcases h.1 with z | z
    · have z := z.2.1
      have z : 1000000 ≤ s := z
      omega
    · have z : mu_k H s = 19 := z.2.2
      rw [e, hq] at z
      exact absurd z (by decide)
  · have z : mu_k H (mu_p (sbv H (some s))) = 101 := h.2.2.1.2.2
    rw [e, hq] at z
    exact absurd z (by decide)
theorem nd_init {d q s : Nat} {k : List Int32} {H : mu_H} (hq : mu_is H (some q) 18) (hq1 : q < 1000000) (h0 : mu_i H q 2 = 0) (h : sb H (some s) k) (hk : k.length < 2 ^ 31) (hz : mu_z H + 1 ≤ 1000000) : mu_TV (mu_D (d + 4)) 519 [.inr (.inr (some q)), .inr (.inr (some s))] H (fun H1 => ndo H1 q (mu_z H) 2 s k [] ∧ kep (fun p => p = q) 1 2 H H1 ∧ mu_r H1 q 4 = mu_r H q 4 ∧ mu_i H1 q 3 = mu_i H q 3 ∧ mu_z H1 = mu_z H + 1) := by
  refine mu_meth (M := mu_m519) rfl rfl ?_
  refine mw_ht (mu_fn_of (show [0, 1].Nodup by decide)) ?_
  have hqz : q < mu_z H := hq.2.1
  have hnq := h.nq hq.2.2 hq1
  refine mw_go mu_g519 (k := 1) (f1 := (1, [(0, .inr (.inr (some q))), (1, .inr (.inr (some s)))], [.inr (.inr (some q))], H)) (C := []) rfl trivial ?_
  refine mw_obj rfl ⟨rfl, hq.2.1⟩ (by decide) ?_
  refine mw_go mu_g519 (k := 9) (f1 := (19, [(0, .inr (.inr (some q))), (1, .inr (.inr (some s)))], [.inr (.inr (some s)), .inr (.inr (some q))], (mu_sr (mu_sr (mu_nw H 109 (2 : Int32).toNatClampNeg (2 : Int32).toNatClampNeg) q 1 (some (mu_z H))) q 0 (some s)))) (C := [¬ (2 : Int32) < 0, (2 : Int32).toNatClampNeg * ev_bytes 9 ≤ 536870912, mu_z H + 1 ≤ 1000000, mu_is (mu_nw H 109 (2 : Int32).toNatClampNeg (2 : Int32).toNatClampNeg) (some q) 18, mu_is (mu_nw H 109 (2 : Int32).toNatClampNeg (2 : Int32).toNatClampNeg) (some q) 18]) rfl (show (¬ (2 : Int32) < 0) ∧ ((2 : Int32).toNatClampNeg * ev_bytes 9 ≤ 536870912) ∧ (mu_z H + 1 ≤ 1000000) ∧ (mu_is (mu_nw H 109 (2 : Int32).toNatClampNeg (2 : Int32).toNatClampNeg) (some q) 18) ∧ (mu_is (mu_nw H 109 (2 : Int32).toNatClampNeg (2 : Int32).toNatClampNeg) (some q) 18) from ⟨(by decide), (by decide), hz, (mu_is_nw hq), (mu_is_nw hq)⟩) ?_
  refine mw_fr (f' := (19, [(0, .inr (.inr (some q))), (1, .inr (.inr (some s)))], [.inr (.inr (some s)), .inr (.inr (some q))], (mu_sr (mu_sr (mu_nw H 109 2 2) q 1 (some (mu_z H))) q 0 (some s)))) (by first | (rw [(show (2 : Int32).toNatClampNeg = 2 from rfl)]; done) | (rw [(show (2 : Int32).toNatClampNeg = 2 from rfl)]; rfl)) ?_
  have k0 : kep (fun p => p = q) (0 + 1) (0 + 2) H (mu_sr (mu_sr (mu_nw H 109 2 2) q 1 (some (mu_z H))) q 0 (some s)) := (((kep.rf (W := fun p => p = q) (H := H)).nw (by omega)).sr (Or.inl rfl)).sr (Or.inl rfl)
  have h' : sb (mu_sr (mu_sr (mu_nw H 109 2 2) q 1 (some (mu_z H))) q 0 (some s)) (some s) k := k0.sb h hnq.1 hnq.2
  refine mw_cIe (fun _ => rfl) trivial (nd_code (d := d) h' hk) ?_
  refine mw_go mu_g519 (k := 1) (f1 := (25, [(0, .inr (.inr (some q))), (1, .inr (.inr (some s)))], [], (mu_si (mu_sr (mu_sr (mu_nw H 109 2 2) q 1 (some (mu_z H))) q 0 (some s)) q 7 (cof k)))) (C := [mu_is (mu_nw H 109 2 2) (some q) 18]) rfl (show mu_is (mu_nw H 109 2 2) (some q) 18 from (mu_is_nw hq)) ?_
  refine mw_of (fun _ => mu_ret rfl trivial ⟨_, rfl, ⟨⟨mu_is_nw (len := 2) (sl := 2) hq, hq1⟩, ⟨mu_is_new H 109 2 2, by omega⟩, ?_, ?_, ?_, ?_, ⟨?_, Nat.zero_le _, by decide, by decide⟩, fun i hi => absurd hi (Nat.not_lt_zero _)⟩, k0.si (Or.inl rfl), ?_, ?_, rfl⟩)
  · simp [mu_r, mu_sr, mu_si]
  · simp [mu_r, mu_sr, mu_si]
  · have e : mu_i (mu_nw H 109 2 2) q 2 = mu_i H q 2 := by rw [mu_i_nw, if_neg (by omega)]
    exact (show mu_i (mu_si (mu_sr (mu_sr (mu_nw H 109 2 2) q 1 (some (mu_z H))) q 0 (some s)) q 7 (cof k)) q 2 = mu_i (mu_nw H 109 2 2) q 2 by rw [mu_i_si, if_neg (by omega)]; rfl).trans (e.trans h0)
  · simp [mu_i, mu_sr, mu_si]
  · show mu_n (mu_nw H 109 2 2) (mu_z H) = 2
    rw [mu_n_nw, if_pos rfl]
  · have e : mu_r (mu_nw H 109 2 2) q 4 = mu_r H q 4 := by rw [mu_r_nw, if_neg (by omega)]
    exact (show mu_r (mu_sr (mu_sr (mu_nw H 109 2 2) q 1 (some (mu_z H))) q 0 (some s)) q 4 = mu_r (mu_nw H 109 2 2) q 4 by rw [mu_r_sr, if_neg (by omega), mu_r_sr, if_neg (by omega)]).trans e
  · have e : mu_i (mu_nw H 109 2 2) q 3 = mu_i H q 3 := by rw [mu_i_nw, if_neg (by omega)]
    exact (show mu_i (mu_si (mu_sr (mu_sr (mu_nw H 109 2 2) q 1 (some (mu_z H))) q 0 (some s)) q 7 (cof k)) q 3 = mu_i (mu_nw H 109 2 2) q 3 by rw [mu_i_si, if_neg (by omega)]; rfl).trans e
