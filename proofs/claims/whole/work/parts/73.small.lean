/-! THE PARSER'S STATE: switches, the levels; what its small methods leave -/
section Switches
variable {run : Nat → List ev_V → List ev_C → Option ev_R} {M : ev_M}
theorem mu_lsw {pc d0 : Nat} {dflt : Int} {ps : Array (Int × Int)} {ts : List Nat} {L : mu_L} {S : List mu_V} {x : Int32} {H : mu_H} {Φ : mu_R → Prop} (hf : ev_find M.2.2.2 pc = some (.lookupswitch dflt ps, d0 :: ts)) (h : mu_HT run M (ev_lk x.toInt (ps.toList.map Prod.fst) ts d0, L, S, H) Φ) : mu_HT run M (pc, L, .inl x :: S, H) Φ := by
  refine mu_ev1 (fun w c n hr => ?_) h
  refine ⟨w, hr, Nat.le_refl _, Nat.le_refl _, fun go => ?_⟩
  unfold ev_body
  have hf' : ev_find M.2.2.2 (mu_e (pc, L, .inl x :: S, H) w c n).1 = some (.lookupswitch dflt ps, d0 :: ts) := hf
  rw [hf']
  show (match ev_step ev_fds ev_jk ev_kb [] M.1 (.lookupswitch dflt ps) (d0 :: ts) (mu_e (pc, L, .inl x :: S, H) w c n) with | some f1 => go f1 | none => none) = go (ev_lk x.toInt (ps.toList.map Prod.fst) ts d0, mu_m L, S.map mu_v, w, c + (mu_c H - mu_c H), n + (mu_s H - mu_s H))
  rw [Nat.sub_self, Nat.sub_self]
  rfl
def sw_all (x : Int) (P : Nat → Prop) : List Int → List Nat → Prop
  | k :: ks, t :: ts => (x = k → P t) ∧ sw_all x P ks ts
  | _, _ => True
theorem sw_all_ok {x : Int} {P : Nat → Prop} {d : Nat} : ∀ (ks : List Int) (ts : List Nat), sw_all x P ks ts → P d → P (ev_lk x ks ts d)
  | [], ts, _, hd => by cases ts <;> exact hd
  | k :: ks, [], _, hd => hd
  | k :: ks, t :: ts, h, hd => by
    show P (bif decide (k = x) then t else ev_lk x ks ts d)
    by_cases e : k = x
    · rw [decide_eq_true e]
      exact h.1 e.symm
    · rw [decide_eq_false e]
      exact sw_all_ok ks ts h.2 hd
theorem mw_lsw {pc d0 : Nat} {dflt : Int} {ps : Array (Int × Int)} {ts : List Nat} {L : mu_L} {S : List mu_V} {x : Int32} {H : mu_H} {Φ : mu_R → Prop} (hf : ev_find M.2.2.2 pc = some (.lookupswitch dflt ps, d0 :: ts)) (h : sw_all x.toInt (fun q => mu_W run M (q, L, S, H) Φ) (ps.toList.map Prod.fst) ts) (hd : mu_W run M (d0, L, S, H) Φ) : mu_W run M (pc, L, .inl x :: S, H) Φ :=
  fun L0 hs => mu_lsw hf (sw_all_ok (P := fun q => mu_W run M (q, L, S, H) Φ) _ _ h hd L0 hs)
def tw_all (x : Int) (P : Nat → Prop) : Int → List Nat → Prop
  | lo, t :: ts => (x = lo → P t) ∧ tw_all x P (lo + 1) ts
  | _, [] => True
theorem tw_all_ok {x : Int} {P : Nat → Prop} : ∀ (ts : List Nat) (lo : Int), tw_all x P lo ts → ∀ (i q : Nat), ts[i]? = some q → x = lo + i → P q
  | [], lo, _, i, q, hq, _ => by simp at hq
  | t :: ts, lo, h, 0, q, hq, hx => by
    simp at hq
    subst hq
    exact h.1 (by omega)
  | t :: ts, lo, h, i + 1, q, hq, hx => tw_all_ok ts (lo + 1) h.2 i q (by simpa using hq) (by omega)
theorem mw_tsw {pc d0 : Nat} {dflt lo hi : Int} {offs : Array Int} {ts : List Nat} {L : mu_L} {S : List mu_V} {x : Int32} {H : mu_H} {Φ : mu_R → Prop} (hf : ev_find M.2.2.2 pc = some (.tableswitch dflt lo hi offs, d0 :: ts)) (hl : hi - lo < ts.length) (hd : mu_W run M (d0, L, S, H) Φ) (h : tw_all x.toInt (fun q => mu_W run M (q, L, S, H) Φ) lo ts) : mu_W run M (pc, L, .inl x :: S, H) Φ :=
  fun L0 hs => mu_sw hf hl (fun _ => hd L0 hs) (fun i q hq hx => tw_all_ok (P := fun q => mu_W run M (q, L, S, H) Φ) ts lo h i q hq hx L0 hs)
/-- the outer arrays may be asked at any frame -/
theorem mw_ot {f : mu_F} {Φ : mu_R → Prop} (h : mu_ot f.2.2.2 → mu_W run M f Φ) : mu_W run M f Φ := fun L0 hs w c n hr => h hr.2.1.2 L0 hs w c n hr
end Switches
theorem lv_ok {H : mu_H} (h : mu_ot H) : mu_isr H (some 1001079) 100 ∧ mu_n H 1001079 = 54 := by
  have h1 := h 79 (by decide +kernel)
  have h2 : (ev_kb.getD 79 []).length = 54 := by decide +kernel
  have h3 : 100 + ev_oty ev_kb (1000 + 79) = 100 := by decide +kernel
  exact ⟨⟨rfl, Or.inr ⟨show 1001000 ≤ 1001079 by decide, show 1001079 < 1001000 + ev_kb.length by decide +kernel⟩, h1.1.trans h3⟩, h1.2.1.trans h2⟩
theorem ps_lv {m : Nat} {H : mu_H} (h : ps m H) (ho : mu_ot H) : vp_in (ps_top H) (mu_n H 1001079) := by
  obtain ⟨k, hk, ek, -⟩ := ps_top_ok h
  rw [(lv_ok ho).2, ek]
  exact vp_in_nI hk (by decide)
section ParserSmall
variable {H : mu_H} {m B d : Nat}
/-- PathProver$Parser.advance()V -/
abbrev mu_m44 : ev_M := (1, none, [], ev_b44)
theorem mu_g44 : mu_good mu_m44 := mu_goodk ev_k44
/-- PathProver$Parser.take(I)Z -/
abbrev mu_m48 : ev_M := (2, (some .boolean), [], ev_b48)
theorem mu_g48 : mu_good mu_m48 := mu_goodk ev_k48
/-- PathProver$Parser.push(II)V -/
abbrev mu_m148 : ev_M := (3, none, [], ev_b148)
theorem mu_g148 : mu_good mu_m148 := mu_goodk ev_k148
/-- PathProver$Parser.emit(II)V -/
abbrev mu_m150 : ev_M := (3, none, [], ev_b150)
theorem mu_g150 : mu_good mu_m150 := mu_goodk ev_k150
/-- PathProver$Parser.top()I -/
abbrev mu_m153 : ev_M := (1, (some .int), [], ev_b153)
theorem mu_g153 : mu_good mu_m153 := mu_goodk ev_k153
theorem pa_top (h : ps m H) : mu_TI (mu_D (d + 2)) 153 [.inr (.inr (some 80))] H (fun x H1 => x = ps_top H ∧ H1 = H) := by
  refine mu_meth (M := mu_m153) rfl rfl ?_
  refine mw_ht (mu_fn_of (show [0].Nodup by decide)) ?_
  refine mw_go mu_g153 (k := 2) (f1 := (4, [(0, .inr (.inr (some 80)))], [.inr (.inr (mu_r H 80 1))], H)) (C := [mu_is H (some 80) 7]) rfl (show mu_is H (some 80) 7 from h.1.is rfl) ?_
  rw [(h.1.r (p := 80) (j := 1) (q := 89) rfl)]
  refine mw_go mu_g153 (k := 2) (f1 := (8, [(0, .inr (.inr (some 80)))], [.inr (.inr (mu_r H 80 1)), .inr (.inr (some 89))], H)) (C := [mu_is H (some 80) 7]) rfl (show mu_is H (some 80) 7 from h.1.is rfl) ?_
  rw [(h.1.r (p := 80) (j := 1) (q := 89) rfl)]
  refine mw_go mu_g153 (k := 4) (f1 := (14, [(0, .inr (.inr (some 80)))], [.inl (0 : Int32), .inl ((mu_i H 89 2) - (1 : Int32)), .inr (.inr (some 89))], H)) (C := [mu_is H (some 89) 10]) rfl (show mu_is H (some 89) 10 from h.1.is rfl) ?_
  refine mw_cIe (fun _ => rfl) (show mu_is H (some 89) 10 from h.1.is rfl) (gi_get_ok (d := d) (H := H) h.1 (r := 89) (W := 2) rfl ((mu_i H 89 2) - (1 : Int32)) (j := 0) (by decide)) ?_
  exact mw_of (fun _ => mu_ret rfl trivial ⟨_, _, rfl, rfl, rfl⟩)
/-- PathProver$Parser.note()I -/
abbrev mu_m156 : ev_M := (1, (some .int), [], ev_b156)
theorem mu_g156 : mu_good mu_m156 := mu_goodk ev_k156
theorem pa_note (h : ps m H) : mu_TI (mu_D (d + 2)) 156 [.inr (.inr (some 80))] H (fun x H1 => x = ps_note H ∧ H1 = H) := by
  refine mu_meth (M := mu_m156) rfl rfl ?_
  refine mw_ht (mu_fn_of (show [0].Nodup by decide)) ?_
  refine mw_go mu_g156 (k := 2) (f1 := (4, [(0, .inr (.inr (some 80)))], [.inr (.inr (mu_r H 80 1))], H)) (C := [mu_is H (some 80) 7]) rfl (show mu_is H (some 80) 7 from h.1.is rfl) ?_
  rw [(h.1.r (p := 80) (j := 1) (q := 89) rfl)]
  refine mw_go mu_g156 (k := 2) (f1 := (8, [(0, .inr (.inr (some 80)))], [.inr (.inr (mu_r H 80 1)), .inr (.inr (some 89))], H)) (C := [mu_is H (some 80) 7]) rfl (show mu_is H (some 80) 7 from h.1.is rfl) ?_
  rw [(h.1.r (p := 80) (j := 1) (q := 89) rfl)]
  refine mw_go mu_g156 (k := 4) (f1 := (14, [(0, .inr (.inr (some 80)))], [.inl (1 : Int32), .inl ((mu_i H 89 2) - (1 : Int32)), .inr (.inr (some 89))], H)) (C := [mu_is H (some 89) 10]) rfl (show mu_is H (some 89) 10 from h.1.is rfl) ?_
  refine mw_cIe (fun _ => rfl) (show mu_is H (some 89) 10 from h.1.is rfl) (gi_get_ok (d := d) (H := H) h.1 (r := 89) (W := 2) rfl ((mu_i H 89 2) - (1 : Int32)) (j := 1) (by decide)) ?_
  exact mw_of (fun _ => mu_ret rfl trivial ⟨_, _, rfl, rfl, rfl⟩)
/-- PathProver$Parser.drop()V -/
abbrev mu_m154 : ev_M := (1, none, [], ev_b154)
theorem mu_g154 : mu_good mu_m154 := mu_goodk ev_k154
/-- PathProver$Parser.turnTo(III)Z -/
abbrev mu_m157 : ev_M := (4, (some .boolean), [], ev_b157)
theorem mu_g157 : mu_good mu_m157 := mu_goodk ev_k157
/-- PathProver$Parser.start(III)Z -/
abbrev mu_m166 : ev_M := (4, (some .boolean), [], ev_b166)
theorem mu_g166 : mu_good mu_m166 := mu_goodk ev_k166
/-- PathProver$Parser.partEnded()Z -/
abbrev mu_m163 : ev_M := (1, (some .boolean), [], ev_b163)
theorem mu_g163 : mu_good mu_m163 := mu_goodk ev_k163
end ParserSmall
