/-! The reference: chosen -/
/-- PathProverModel.chosen(LPathProverModel$Node;LPathProverModel$Instance;I)Z -/
abbrev mu_m433 : ev_M := (5, (some .boolean), [], ev_b433)
theorem mu_g433 : mu_good mu_m433 := mu_goodk ev_k433
/-- value, for all that can be told -/
def valk (tr : Prop) (Hb : mu_H) (D : MD) (ph pt pk pa f : Nat) : Prop := ∀ j q c H dd, j < D.n → vsta tr Hb D ph pt pk pa H → nd Hb D.G dd q c → vcq tr D j c → mu_TI (mu_D f) 411 [.inr (.inr (some 169)), .inr (.inr (some q)), .inr (.inr (some (D.ip j)))] H (fun _ H1 => vsta tr Hb D ph pt pk pa H1 ∧ vfk pk pa H H1)
/-- a choice whose values can be told -/
def ccw (tr : Prop) (D : MD) (j : Nat) : Nat → Tre → Prop
  | 0, _ => False
  | l + 1, c => (tkd c = 10 → ∀ k, k < tsn c → vcq tr D j (tkk c k)) ∧ (tkd c = 52 → tsn c % 2 = 0 ∧ ∀ k, k < tsn c → (k % 2 = 0 → vcq tr D j (tkk c k)) ∧ (k % 2 = 1 → ccw tr D j l (tkk c k))) ∧ (¬ tkd c = 10 → ¬ tkd c = 52 → vcq tr D j c)
theorem nxo.up {tr : Prop} {D : MD} {j : Nat} : ∀ {l : Nat} {c : Tre}, nxo tr D j l c → nxo tr D j (l + 1) c
  | 0, _, h => h.elim
  | _ + 1, _, h => ⟨h.1, h.2.1, fun k hk => nxo.up (h.2.2 k hk)⟩
theorem nxo.le {tr : Prop} {D : MD} {j l l' : Nat} {c : Tre} (h : nxo tr D j l c) (he : l ≤ l') : nxo tr D j l' c := by
  obtain ⟨m, rfl⟩ := Nat.le.dest he
  clear he
  induction m with
  | zero => exact h
  | succ m ih => exact ih.up
theorem vcw_s {tr : Prop} {D : MD} {j l : Nat} {ss : Nat → Int32} {wh pl s : Int32} {c : Tre} (h : srt D j ss wh l pl c = some s) (hx : exw l c) (hk : nmk D j c) (hw : wh ≠ 2 ∨ pl = 1) (ht : wh = 1 → tr) (hl : l ≤ 905) (hh : hlx D 120 j c) : vcq tr D j c := by
  have q := srt_ok h hx
  exact ⟨⟨hx.le hl, hk, (nxo_of ht q.1 (q.2 hw)).le hl⟩, hh⟩
theorem chz_ccw {tr : Prop} {D : MD} {j : Nat} {ss : Nat → Int32} {wt : Int32} : ∀ {l : Nat} {c : Tre}, chw l c → nmk D j c → chzs D j ss wt l c → l ≤ 905 → hlc D j l c → ccw tr D j l c
  | 0, _, h, _, _, _, _ => h.elim
  | l + 1, c, h, hk, hz, hl, hh => by
    refine ⟨fun e k kt => ?_, fun e => ⟨chw_even h e, fun k kt => ⟨fun e2 => ?_, fun e2 => ?_⟩⟩, fun e1 e2 => ?_⟩
    · exact vcw_s (hz.1 e k kt) ((h.pt kt (Or.inl e)).1 (fun z => by rw [e] at z; exact absurd z.1 (by decide))) (hk.k kt) (Or.inl (by decide)) (fun z => absurd z (by decide)) (by omega) (hh.1 e k kt)
    · exact vcw_s ((hz.2.1 e k kt).1 e2) ((h.pt kt (Or.inr e)).1 (fun z => by omega)) (hk.k kt) (Or.inl (by decide)) (fun z => absurd z (by decide)) (by omega) ((hh.2.1 e k kt).1 e2)
    · exact chz_ccw ((h.pt kt (Or.inr e)).2 ⟨e, e2⟩) (hk.k kt) ((hz.2.1 e k kt).2 e2) (by omega) ((hh.2.1 e k kt).2 e2)
    · exact vcw_s (hz.2.2 e1 e2) (h.no (fun z => z.elim e1 e2)) hk (Or.inl (by decide)) (fun z => absurd z (by decide)) hl (hh.2.2 e1 e2)
def chk2 (tr : Prop) (Hb : mu_H) (D : MD) (ph pt pk pa j f l : Nat) : Prop := ∀ q c H dd (x : Int32), vsta tr Hb D ph pt pk pa H → nd Hb D.G dd q c → ccw tr D j l c → mu_TI (mu_D (f + l + 4)) 433 [.inr (.inr (some 169)), .inr (.inr (some q)), .inr (.inr (some (D.ip j))), .inl x] H (fun y H1 => (y = 0 ∨ y = 1) ∧ vsta tr Hb D ph pt pk pa H1 ∧ vfk pk pa H H1)
theorem rp_cho1 {tr : Prop} {Hb H0 : mu_H} {D : MD} {ph pt pk pa j f l dd q : Nat} {c : Tre} {x : Int32} (hj : j < D.n) (hval : valk tr Hb D ph pt pk pa f) (hn : nd Hb D.G dd q c) (hw : ∀ k, k < tsn c → vcq tr D j (tkk c k)) : ∀ m_ k H, k + m_ = tsn c → vsta tr Hb D ph pt pk pa H → vfk pk pa H0 H → mu_W (mu_D (f + l + 4)) mu_m433 (12, [(4, .inl (nI k)), (3, .inl x), (2, .inr (.inr (some (D.ip j)))), (1, .inr (.inr (some q))), (0, .inr (.inr (some 169)))], [], H) (fun r => ∃ y H1, r = (.inl (some (.inl y)), H1) ∧ (y = 0 ∨ y = 1) ∧ vsta tr Hb D ph pt pk pa H1 ∧ vfk pk pa H0 H1)
  | 0, k, H, hm_, hv, hf => by
    obtain ⟨kd1, ⟨is1, nF1, lt1⟩, ⟨st1, sr1, sf1⟩, ⟨n2_1, n3_1, n7_1⟩, nm1, ar1, aq1, aF1, ai1, ⟨al1, am1, ax1⟩, ch1, dp1⟩ := nd.ra (c := c) hn hv.1.2.1
    have hl := hn.s26
    refine mw_go mu_g433 (k := 3) (f1 := (18, [(4, .inl (nI k)), (3, .inl x), (2, .inr (.inr (some (D.ip j)))), (1, .inr (.inr (some q))), (0, .inr (.inr (some 169)))], [.inl (mu_i H q 2), .inl (nI k)], H)) (C := [mu_is H (some q) 18]) rfl (show mu_is H (some q) 18 from is1) ?_
    refine mw_fr (f' := (18, [(4, .inl (nI k)), (3, .inl x), (2, .inr (.inr (some (D.ip j)))), (1, .inr (.inr (some q))), (0, .inr (.inr (some 169)))], [.inl (nI (tsn c)), .inl (nI k)], H)) (by first | (rw [n2_1]; done) | (rw [n2_1]; rfl)) ?_
    refine mw_if (P := (nI k) < (nI (tsn c))) (a := 21) (b := 45) (fun _ => rfl) trivial (fun h1 => absurd h1 (by rw [show k = tsn c by omega]; exact Int32.lt_irrefl)) (fun h1 => ?_)
    refine mw_go mu_g433 (k := 1) (f1 := (46, [(4, .inl (nI k)), (3, .inl x), (2, .inr (.inr (some (D.ip j)))), (1, .inr (.inr (some q))), (0, .inr (.inr (some 169)))], [.inl (0 : Int32)], H)) (C := []) rfl trivial ?_
    exact mw_of (fun _ => mu_ret rfl (Or.inl rfl) ⟨_, _, rfl, Or.inl rfl, hv, hf⟩)
  | m_ + 1, k, H, hm_, hv, hf => by
    obtain ⟨kd1, ⟨is1, nF1, lt1⟩, ⟨st1, sr1, sf1⟩, ⟨n2_1, n3_1, n7_1⟩, nm1, ar1, aq1, aF1, ai1, ⟨al1, am1, ax1⟩, ch1, dp1⟩ := nd.ra (c := c) hn hv.1.2.1
    have hl := hn.s26
    have kt : k < tsn c := by omega
    refine mw_go mu_g433 (k := 3) (f1 := (18, [(4, .inl (nI k)), (3, .inl x), (2, .inr (.inr (some (D.ip j)))), (1, .inr (.inr (some q))), (0, .inr (.inr (some 169)))], [.inl (mu_i H q 2), .inl (nI k)], H)) (C := [mu_is H (some q) 18]) rfl (show mu_is H (some q) 18 from is1) ?_
    refine mw_fr (f' := (18, [(4, .inl (nI k)), (3, .inl x), (2, .inr (.inr (some (D.ip j)))), (1, .inr (.inr (some q))), (0, .inr (.inr (some 169)))], [.inl (nI (tsn c)), .inl (nI k)], H)) (by first | (rw [n2_1]; done) | (rw [n2_1]; rfl)) ?_
    refine mw_if (P := (nI k) < (nI (tsn c))) (a := 21) (b := 45) (fun _ => rfl) trivial (fun h1 => ?_) (fun h1 => absurd (nI_lt kt (by omega)) h1)
    obtain ⟨y, yr2, yn2⟩ := ch1 k kt
    have yn2 : nd Hb D.G (dd - 1) y (tkk c k) := yn2
    obtain ⟨b1_2, b2_2, b3_2, b4_2⟩ := ar_at ai1 (by decide) (Nat.lt_of_lt_of_le kt al1) (Nat.lt_of_le_of_lt ax1 (by decide))
    have y2_2 : mu_r H ar1 (nI k).toNatClampNeg = some y := by rw [b4_2]; exact yr2
    refine mw_go mu_g433 (k := 3) (f1 := (26, [(4, .inl (nI k)), (3, .inl x), (2, .inr (.inr (some (D.ip j)))), (1, .inr (.inr (some q))), (0, .inr (.inr (some 169)))], [.inr (.inr (mu_r H q 1)), .inr (.inr (some 169))], H)) (C := [mu_is H (some q) 18]) rfl (show mu_is H (some q) 18 from is1) ?_
    refine mw_fr (f' := (26, [(4, .inl (nI k)), (3, .inl x), (2, .inr (.inr (some (D.ip j)))), (1, .inr (.inr (some q))), (0, .inr (.inr (some 169)))], [.inr (.inr (some ar1)), .inr (.inr (some 169))], H)) (by first | (rw [aq1]; done) | (rw [aq1]; rfl)) ?_
    refine mw_go mu_g433 (k := 2) (f1 := (29, [(4, .inl (nI k)), (3, .inl x), (2, .inr (.inr (some (D.ip j)))), (1, .inr (.inr (some q))), (0, .inr (.inr (some 169)))], [.inr (.inr (mu_r H ar1 (nI k).toNatClampNeg)), .inr (.inr (some 169))], H)) (C := [mu_is H (some ar1) (mu_k H ar1), 103 ≤ mu_k H ar1 ∧ mu_k H ar1 ≤ 110 ∧ mu_k H ar1 ≠ 108, vp_in (nI k) (mu_n H ar1)]) rfl (show (mu_is H (some ar1) (mu_k H ar1)) ∧ (103 ≤ mu_k H ar1 ∧ mu_k H ar1 ≤ 110 ∧ mu_k H ar1 ≠ 108) ∧ (vp_in (nI k) (mu_n H ar1)) from ⟨b1_2, b2_2, b3_2⟩) ?_
    refine mw_fr (f' := (29, [(4, .inl (nI k)), (3, .inl x), (2, .inr (.inr (some (D.ip j)))), (1, .inr (.inr (some q))), (0, .inr (.inr (some 169)))], [.inr (.inr (some y)), .inr (.inr (some 169))], H)) (by first | (rw [y2_2]; done) | (rw [y2_2]; rfl)) ?_
    refine mw_go mu_g433 (k := 1) (f1 := (30, [(4, .inl (nI k)), (3, .inl x), (2, .inr (.inr (some (D.ip j)))), (1, .inr (.inr (some q))), (0, .inr (.inr (some 169)))], [.inr (.inr (some (D.ip j))), .inr (.inr (some y)), .inr (.inr (some 169))], H)) (C := []) rfl trivial ?_
    refine mw_cI (fun _ => rfl) (show mu_is H (some 169) 1 from hv.1.2.2.1.1) (mu_TI.up (show f ≤ f + l + 4 by omega) (hval j _ _ _ _ hj hv yn2 (hw k kt))) (fun x3 H3 q3 => ?_)
    obtain ⟨hv3, hf3⟩ := q3
    refine mw_go mu_g433 (k := 1) (f1 := (34, [(4, .inl (nI k)), (3, .inl x), (2, .inr (.inr (some (D.ip j)))), (1, .inr (.inr (some q))), (0, .inr (.inr (some 169)))], [.inl x, .inl x3], H3)) (C := []) rfl trivial ?_
    refine mw_if (P := x3 = x) (a := 37) (b := 39) (fun _ => rfl) trivial (fun h2 => ?_) (fun h2 => ?_)
    · -- 37
      refine mw_go mu_g433 (k := 1) (f1 := (38, [(4, .inl (nI k)), (3, .inl x), (2, .inr (.inr (some (D.ip j)))), (1, .inr (.inr (some q))), (0, .inr (.inr (some 169)))], [.inl (1 : Int32)], H3)) (C := []) rfl trivial ?_
      exact mw_of (fun _ => mu_ret rfl (Or.inr rfl) ⟨_, _, rfl, Or.inr rfl, hv3, (hf.tr hf3)⟩)
    · -- 39
      refine mw_go mu_g433 (k := 2) (f1 := (12, [(4, .inl ((nI k) + 1)), (3, .inl x), (2, .inr (.inr (some (D.ip j)))), (1, .inr (.inr (some q))), (0, .inr (.inr (some 169)))], [], H3)) (C := []) rfl trivial ?_
      refine mw_sub (L' := [(4, .inl (nI (k + 1))), (3, .inl x), (2, .inr (.inr (some (D.ip j)))), (1, .inr (.inr (some q))), (0, .inr (.inr (some 169)))]) (by intro x hx; simp only [List.mem_cons, List.not_mem_nil, or_false] at hx ⊢; rcases hx with rfl | rfl | rfl | rfl | rfl <;> first | (simp [nI_add, show (1 : Int32) = nI 1 from rfl]; done) | simp [nI]) ?_
      exact rp_cho1 hj hval hn hw m_ (k + 1) _ (by omega) hv3 (hf.tr hf3)
theorem rp_cho2 {tr : Prop} {Hb H0 : mu_H} {D : MD} {ph pt pk pa j f l dd q : Nat} {c : Tre} {x : Int32} (hj : j < D.n) (hval : valk tr Hb D ph pt pk pa f) (hn : nd Hb D.G dd q c) (hw : ∀ k, k < tsn c → (k % 2 = 0 → vcq tr D j (tkk c k)) ∧ (k % 2 = 1 → ccw tr D j l (tkk c k))) (ih : chk2 tr Hb D ph pt pk pa j f l) : ∀ m_ k H, k + 2 * m_ = tsn c → k % 2 = 0 → vsta tr Hb D ph pt pk pa H → vfk pk pa H0 H → mu_W (mu_D (f + l + 4)) mu_m433 (59, [(4, .inl (nI k)), (3, .inl x), (2, .inr (.inr (some (D.ip j)))), (1, .inr (.inr (some q))), (0, .inr (.inr (some 169)))], [], H) (fun r => ∃ y H1, r = (.inl (some (.inl y)), H1) ∧ (y = 0 ∨ y = 1) ∧ vsta tr Hb D ph pt pk pa H1 ∧ vfk pk pa H0 H1)
  | 0, k, H, hm_, hev, hv, hf => by
    obtain ⟨kd1, ⟨is1, nF1, lt1⟩, ⟨st1, sr1, sf1⟩, ⟨n2_1, n3_1, n7_1⟩, nm1, ar1, aq1, aF1, ai1, ⟨al1, am1, ax1⟩, ch1, dp1⟩ := nd.ra (c := c) hn hv.1.2.1
    have hl := hn.s26
    refine mw_go mu_g433 (k := 3) (f1 := (65, [(4, .inl (nI k)), (3, .inl x), (2, .inr (.inr (some (D.ip j)))), (1, .inr (.inr (some q))), (0, .inr (.inr (some 169)))], [.inl (mu_i H q 2), .inl (nI k)], H)) (C := [mu_is H (some q) 18]) rfl (show mu_is H (some q) 18 from is1) ?_
    refine mw_fr (f' := (65, [(4, .inl (nI k)), (3, .inl x), (2, .inr (.inr (some (D.ip j)))), (1, .inr (.inr (some q))), (0, .inr (.inr (some 169)))], [.inl (nI (tsn c)), .inl (nI k)], H)) (by first | (rw [n2_1]; done) | (rw [n2_1]; rfl)) ?_
    refine mw_if (P := (nI k) < (nI (tsn c))) (a := 68) (b := 106) (fun _ => rfl) trivial (fun h1 => absurd h1 (by rw [show k = tsn c by omega]; exact Int32.lt_irrefl)) (fun h1 => ?_)
    refine mw_go mu_g433 (k := 1) (f1 := (107, [(4, .inl (nI k)), (3, .inl x), (2, .inr (.inr (some (D.ip j)))), (1, .inr (.inr (some q))), (0, .inr (.inr (some 169)))], [.inl x], H)) (C := []) rfl trivial ?_
    refine mw_if (P := x = 0) (a := 110) (b := 114) (fun _ => rfl) trivial (fun h2 => ?_) (fun h2 => ?_)
    · -- 110
      refine mw_go mu_g433 (k := 2) (f1 := (115, [(4, .inl (nI k)), (3, .inl x), (2, .inr (.inr (some (D.ip j)))), (1, .inr (.inr (some q))), (0, .inr (.inr (some 169)))], [.inl (1 : Int32)], H)) (C := []) rfl trivial ?_
      exact mw_of (fun _ => mu_ret rfl (Or.inr rfl) ⟨_, _, rfl, Or.inr rfl, hv, hf⟩)
    · -- 114
      refine mw_go mu_g433 (k := 1) (f1 := (115, [(4, .inl (nI k)), (3, .inl x), (2, .inr (.inr (some (D.ip j)))), (1, .inr (.inr (some q))), (0, .inr (.inr (some 169)))], [.inl (0 : Int32)], H)) (C := []) rfl trivial ?_
      exact mw_of (fun _ => mu_ret rfl (Or.inl rfl) ⟨_, _, rfl, Or.inl rfl, hv, hf⟩)
  | m_ + 1, k, H, hm_, hev, hv, hf => by
    obtain ⟨kd1, ⟨is1, nF1, lt1⟩, ⟨st1, sr1, sf1⟩, ⟨n2_1, n3_1, n7_1⟩, nm1, ar1, aq1, aF1, ai1, ⟨al1, am1, ax1⟩, ch1, dp1⟩ := nd.ra (c := c) hn hv.1.2.1
    have hl := hn.s26
    have kt : k < tsn c := by omega
    have k1t : k + 1 < tsn c := by omega
    refine mw_go mu_g433 (k := 3) (f1 := (65, [(4, .inl (nI k)), (3, .inl x), (2, .inr (.inr (some (D.ip j)))), (1, .inr (.inr (some q))), (0, .inr (.inr (some 169)))], [.inl (mu_i H q 2), .inl (nI k)], H)) (C := [mu_is H (some q) 18]) rfl (show mu_is H (some q) 18 from is1) ?_
    refine mw_fr (f' := (65, [(4, .inl (nI k)), (3, .inl x), (2, .inr (.inr (some (D.ip j)))), (1, .inr (.inr (some q))), (0, .inr (.inr (some 169)))], [.inl (nI (tsn c)), .inl (nI k)], H)) (by first | (rw [n2_1]; done) | (rw [n2_1]; rfl)) ?_
    refine mw_if (P := (nI k) < (nI (tsn c))) (a := 68) (b := 106) (fun _ => rfl) trivial (fun h1 => ?_) (fun h1 => absurd (nI_lt kt (by omega)) h1)
    obtain ⟨y, yr2, yn2⟩ := ch1 k kt
    have yn2 : nd Hb D.G (dd - 1) y (tkk c k) := yn2
    obtain ⟨b1_2, b2_2, b3_2, b4_2⟩ := ar_at ai1 (by decide) (Nat.lt_of_lt_of_le kt al1) (Nat.lt_of_le_of_lt ax1 (by decide))
    have y2_2 : mu_r H ar1 (nI k).toNatClampNeg = some y := by rw [b4_2]; exact yr2
    refine mw_go mu_g433 (k := 3) (f1 := (73, [(4, .inl (nI k)), (3, .inl x), (2, .inr (.inr (some (D.ip j)))), (1, .inr (.inr (some q))), (0, .inr (.inr (some 169)))], [.inr (.inr (mu_r H q 1)), .inr (.inr (some 169))], H)) (C := [mu_is H (some q) 18]) rfl (show mu_is H (some q) 18 from is1) ?_
    refine mw_fr (f' := (73, [(4, .inl (nI k)), (3, .inl x), (2, .inr (.inr (some (D.ip j)))), (1, .inr (.inr (some q))), (0, .inr (.inr (some 169)))], [.inr (.inr (some ar1)), .inr (.inr (some 169))], H)) (by first | (rw [aq1]; done) | (rw [aq1]; rfl)) ?_
    refine mw_go mu_g433 (k := 2) (f1 := (76, [(4, .inl (nI k)), (3, .inl x), (2, .inr (.inr (some (D.ip j)))), (1, .inr (.inr (some q))), (0, .inr (.inr (some 169)))], [.inr (.inr (mu_r H ar1 (nI k).toNatClampNeg)), .inr (.inr (some 169))], H)) (C := [mu_is H (some ar1) (mu_k H ar1), 103 ≤ mu_k H ar1 ∧ mu_k H ar1 ≤ 110 ∧ mu_k H ar1 ≠ 108, vp_in (nI k) (mu_n H ar1)]) rfl (show (mu_is H (some ar1) (mu_k H ar1)) ∧ (103 ≤ mu_k H ar1 ∧ mu_k H ar1 ≤ 110 ∧ mu_k H ar1 ≠ 108) ∧ (vp_in (nI k) (mu_n H ar1)) from ⟨b1_2, b2_2, b3_2⟩) ?_
    refine mw_fr (f' := (76, [(4, .inl (nI k)), (3, .inl x), (2, .inr (.inr (some (D.ip j)))), (1, .inr (.inr (some q))), (0, .inr (.inr (some 169)))], [.inr (.inr (some y)), .inr (.inr (some 169))], H)) (by first | (rw [y2_2]; done) | (rw [y2_2]; rfl)) ?_
    refine mw_go mu_g433 (k := 1) (f1 := (77, [(4, .inl (nI k)), (3, .inl x), (2, .inr (.inr (some (D.ip j)))), (1, .inr (.inr (some q))), (0, .inr (.inr (some 169)))], [.inr (.inr (some (D.ip j))), .inr (.inr (some y)), .inr (.inr (some 169))], H)) (C := []) rfl trivial ?_
    refine mw_cI (fun _ => rfl) (show mu_is H (some 169) 1 from hv.1.2.2.1.1) (mu_TI.up (show f ≤ f + l + 4 by omega) (hval j _ _ _ _ hj hv yn2 ((hw k kt).1 hev))) (fun x3 H3 q3 => ?_)
    obtain ⟨hv3, hf3⟩ := q3
    refine mw_go mu_g433 (k := 1) (f1 := (81, [(4, .inl (nI k)), (3, .inl x), (2, .inr (.inr (some (D.ip j)))), (1, .inr (.inr (some q))), (0, .inr (.inr (some 169)))], [.inl (1 : Int32), .inl x3], H3)) (C := []) rfl trivial ?_
    refine mw_if (P := x3 = (1 : Int32)) (a := 84) (b := 100) (fun _ => rfl) trivial (fun h2 => ?_) (fun h2 => ?_)
    · -- 84
      obtain ⟨kd4, ⟨is4, nF4, lt4⟩, ⟨st4, sr4, sf4⟩, ⟨n2_4, n3_4, n7_4⟩, nm4, ar4, aq4, aF4, ai4, ⟨al4, am4, ax4⟩, ch4, dp4⟩ := nd.ra (c := c) hn hv3.1.2.1
      have e1 : nI k + (1 : Int32) = nI (k + 1) := nI_add _ _
      obtain ⟨y2, yr5, yn5⟩ := ch4 (k + 1) k1t
      have yn5 : nd Hb D.G (dd - 1) y2 (tkk c (k + 1)) := yn5
      obtain ⟨b1_5, b2_5, b3_5, b4_5⟩ := ar_at ai4 (by decide) (Nat.lt_of_lt_of_le k1t al4) (Nat.lt_of_le_of_lt ax4 (by decide))
      have y2_5 : mu_r H3 ar4 (nI (k + 1)).toNatClampNeg = some y2 := by rw [b4_5]; exact yr5
      refine mw_go mu_g433 (k := 3) (f1 := (89, [(4, .inl (nI k)), (3, .inl x), (2, .inr (.inr (some (D.ip j)))), (1, .inr (.inr (some q))), (0, .inr (.inr (some 169)))], [.inr (.inr (mu_r H3 q 1)), .inr (.inr (some 169))], H3)) (C := [mu_is H3 (some q) 18]) rfl (show mu_is H3 (some q) 18 from is4) ?_
      refine mw_fr (f' := (89, [(4, .inl (nI k)), (3, .inl x), (2, .inr (.inr (some (D.ip j)))), (1, .inr (.inr (some q))), (0, .inr (.inr (some 169)))], [.inr (.inr (some ar4)), .inr (.inr (some 169))], H3)) (by first | (rw [aq4]; done) | (rw [aq4]; rfl)) ?_
      refine mw_go mu_g433 (k := 3) (f1 := (93, [(4, .inl (nI k)), (3, .inl x), (2, .inr (.inr (some (D.ip j)))), (1, .inr (.inr (some q))), (0, .inr (.inr (some 169)))], [.inl ((nI k) + (1 : Int32)), .inr (.inr (some ar4)), .inr (.inr (some 169))], H3)) (C := []) rfl trivial ?_
      refine mw_fr (f' := (93, [(4, .inl (nI k)), (3, .inl x), (2, .inr (.inr (some (D.ip j)))), (1, .inr (.inr (some q))), (0, .inr (.inr (some 169)))], [.inl (nI (k + 1)), .inr (.inr (some ar4)), .inr (.inr (some 169))], H3)) (by first | (rw [e1]; done) | (rw [e1]; rfl)) ?_
      refine mw_go mu_g433 (k := 1) (f1 := (94, [(4, .inl (nI k)), (3, .inl x), (2, .inr (.inr (some (D.ip j)))), (1, .inr (.inr (some q))), (0, .inr (.inr (some 169)))], [.inr (.inr (mu_r H3 ar4 (nI (k + 1)).toNatClampNeg)), .inr (.inr (some 169))], H3)) (C := [mu_is H3 (some ar4) (mu_k H3 ar4), 103 ≤ mu_k H3 ar4 ∧ mu_k H3 ar4 ≤ 110 ∧ mu_k H3 ar4 ≠ 108, vp_in (nI (k + 1)) (mu_n H3 ar4)]) rfl (show (mu_is H3 (some ar4) (mu_k H3 ar4)) ∧ (103 ≤ mu_k H3 ar4 ∧ mu_k H3 ar4 ≤ 110 ∧ mu_k H3 ar4 ≠ 108) ∧ (vp_in (nI (k + 1)) (mu_n H3 ar4)) from ⟨b1_5, b2_5, b3_5⟩) ?_
      refine mw_fr (f' := (94, [(4, .inl (nI k)), (3, .inl x), (2, .inr (.inr (some (D.ip j)))), (1, .inr (.inr (some q))), (0, .inr (.inr (some 169)))], [.inr (.inr (some y2)), .inr (.inr (some 169))], H3)) (by first | (rw [y2_5]; done) | (rw [y2_5]; rfl)) ?_
      refine mw_go mu_g433 (k := 2) (f1 := (96, [(4, .inl (nI k)), (3, .inl x), (2, .inr (.inr (some (D.ip j)))), (1, .inr (.inr (some q))), (0, .inr (.inr (some 169)))], [.inl x, .inr (.inr (some (D.ip j))), .inr (.inr (some y2)), .inr (.inr (some 169))], H3)) (C := []) rfl trivial ?_
      refine mw_cI (fun _ => rfl) (show mu_is H3 (some 169) 1 from hv3.1.2.2.1.1) (ih _ _ _ _ _ hv3 yn5 ((hw (k + 1) k1t).2 (by omega))) (fun x6 H6 q6 => ?_)
      obtain ⟨hz6, hv6, hf6⟩ := q6
      exact mw_of (fun _ => mu_ret rfl (hz6) ⟨_, _, rfl, hz6, hv6, ((hf.tr hf3).tr hf6)⟩)
    · -- 100
      refine mw_go mu_g433 (k := 2) (f1 := (59, [(4, .inl ((nI k) + 2)), (3, .inl x), (2, .inr (.inr (some (D.ip j)))), (1, .inr (.inr (some q))), (0, .inr (.inr (some 169)))], [], H3)) (C := []) rfl trivial ?_
      refine mw_sub (L' := [(4, .inl (nI (k + 2))), (3, .inl x), (2, .inr (.inr (some (D.ip j)))), (1, .inr (.inr (some q))), (0, .inr (.inr (some 169)))]) (by intro x hx; simp only [List.mem_cons, List.not_mem_nil, or_false] at hx ⊢; rcases hx with rfl | rfl | rfl | rfl | rfl <;> first | (simp [nI_add, show (2 : Int32) = nI 2 from rfl]; done) | simp [nI]) ?_
      exact rp_cho2 hj hval hn hw ih m_ (k + 2) _ (by omega) (by omega) hv3 (hf.tr hf3)
theorem rp_chosen {tr : Prop} {Hb : mu_H} {D : MD} {ph pt pk pa j f : Nat} (hj : j < D.n) (hval : valk tr Hb D ph pt pk pa f) : ∀ l, chk2 tr Hb D ph pt pk pa j f l
  | 0 => fun _ _ _ _ _ _ _ hw => hw.elim
  | l + 1 => fun q c H dd x hv hn hw => by
    have ih := rp_chosen (tr := tr) (Hb := Hb) (ph := ph) (pt := pt) (pk := pk) (pa := pa) hj hval l
    refine mu_meth (M := mu_m433) rfl rfl ?_
    refine mw_ht (mu_fn_of (show [0, 1, 2, 3].Nodup by decide)) ?_
    obtain ⟨kd1, ⟨is1, nF1, lt1⟩, ⟨st1, sr1, sf1⟩, ⟨n2_1, n3_1, n7_1⟩, nm1, ar1, aq1, aF1, ai1, ⟨al1, am1, ax1⟩, ch1, dp1⟩ := nd.ra (c := c) hn hv.1.2.1
    refine mw_go mu_g433 (k := 2) (f1 := (3, [(0, .inr (.inr (some 169))), (1, .inr (.inr (some q))), (2, .inr (.inr (some (D.ip j)))), (3, .inl x)], [.inr (.inr (some 1000010)), .inr (.inr (some q))], H)) (C := []) rfl trivial ?_
    refine mw_cIe (fun _ => rfl) (show mu_is H (some q) 18 from is1) (agr.isL (e := f + l + 1) (j := 10) hn hv.1.2.1 (by decide)) ?_
    refine mw_if (P := (if tkd c = 10 then 1 else 0) = 0) (a := 47) (b := 9) (fun _ => rfl) trivial (fun hi2 => ?_) (fun hi2 => ?_)
    · -- 47
      have ek2 : ¬ tkd c = 10 := fun e => by rw [if_pos e] at hi2; exact absurd hi2 (by decide)
      refine mw_go mu_g433 (k := 2) (f1 := (50, [(0, .inr (.inr (some 169))), (1, .inr (.inr (some q))), (2, .inr (.inr (some (D.ip j)))), (3, .inl x)], [.inr (.inr (some 1000052)), .inr (.inr (some q))], H)) (C := []) rfl trivial ?_
      refine mw_cIe (fun _ => rfl) (show mu_is H (some q) 18 from is1) (agr.isL (e := f + l + 1) (j := 52) hn hv.1.2.1 (by decide)) ?_
      refine mw_if (P := (if tkd c = 52 then 1 else 0) = 0) (a := 116) (b := 56) (fun _ => rfl) trivial (fun hi3 => ?_) (fun hi3 => ?_)
      · -- 116
        have ek3 : ¬ tkd c = 52 := fun e => by rw [if_pos e] at hi3; exact absurd hi3 (by decide)
        refine mw_go mu_g433 (k := 3) (f1 := (119, [(0, .inr (.inr (some 169))), (1, .inr (.inr (some q))), (2, .inr (.inr (some (D.ip j)))), (3, .inl x)], [.inr (.inr (some (D.ip j))), .inr (.inr (some q)), .inr (.inr (some 169))], H)) (C := []) rfl trivial ?_
        refine mw_cI (fun _ => rfl) (show mu_is H (some 169) 1 from hv.1.2.2.1.1) (mu_TI.up (show f ≤ f + l + 4 by omega) (hval j _ _ _ _ hj hv hn (hw.2.2 ek2 ek3))) (fun x4 H4 q4 => ?_)
        obtain ⟨hv4, hf4⟩ := q4
        refine mw_go mu_g433 (k := 1) (f1 := (123, [(0, .inr (.inr (some 169))), (1, .inr (.inr (some q))), (2, .inr (.inr (some (D.ip j)))), (3, .inl x)], [.inl x, .inl x4], H4)) (C := []) rfl trivial ?_
        refine mw_if (P := x4 = x) (a := 126) (b := 130) (fun _ => rfl) trivial (fun h5 => ?_) (fun h5 => ?_)
        · -- 126
          refine mw_go mu_g433 (k := 2) (f1 := (131, [(0, .inr (.inr (some 169))), (1, .inr (.inr (some q))), (2, .inr (.inr (some (D.ip j)))), (3, .inl x)], [.inl (1 : Int32)], H4)) (C := []) rfl trivial ?_
          exact mw_of (fun _ => mu_ret rfl (Or.inr rfl) ⟨_, _, rfl, Or.inr rfl, hv4, ((vfk.rf (pk := pk) (pa := pa) (H := H)).tr hf4)⟩)
        · -- 130
          refine mw_go mu_g433 (k := 1) (f1 := (131, [(0, .inr (.inr (some 169))), (1, .inr (.inr (some q))), (2, .inr (.inr (some (D.ip j)))), (3, .inl x)], [.inl (0 : Int32)], H4)) (C := []) rfl trivial ?_
          exact mw_of (fun _ => mu_ret rfl (Or.inl rfl) ⟨_, _, rfl, Or.inl rfl, hv4, ((vfk.rf (pk := pk) (pa := pa) (H := H)).tr hf4)⟩)
      · -- 56
        have ek3 : tkd c = 52 := Decidable.byContradiction (fun e => hi3 (if_neg e))
        have ev := hw.2.1 ek3
        refine mw_go mu_g433 (k := 2) (f1 := (59, [(4, .inl (0 : Int32)), (0, .inr (.inr (some 169))), (1, .inr (.inr (some q))), (2, .inr (.inr (some (D.ip j)))), (3, .inl x)], [], H)) (C := []) rfl trivial ?_
        refine mw_sub (L' := [(4, .inl (nI 0)), (3, .inl x), (2, .inr (.inr (some (D.ip j)))), (1, .inr (.inr (some q))), (0, .inr (.inr (some 169)))]) (by intro x hx; simp only [List.mem_cons, List.not_mem_nil, or_false] at hx ⊢; rcases hx with rfl | rfl | rfl | rfl | rfl <;> simp [nI]) ?_
        exact rp_cho2 hj hval hn ev.2 ih (tsn c / 2) 0 _ (by have := ev.1; omega) rfl hv vfk.rf
    · -- 9
      have ek2 : tkd c = 10 := Decidable.byContradiction (fun e => hi2 (if_neg e))
      refine mw_go mu_g433 (k := 2) (f1 := (12, [(4, .inl (0 : Int32)), (0, .inr (.inr (some 169))), (1, .inr (.inr (some q))), (2, .inr (.inr (some (D.ip j)))), (3, .inl x)], [], H)) (C := []) rfl trivial ?_
      refine mw_sub (L' := [(4, .inl (nI 0)), (3, .inl x), (2, .inr (.inr (some (D.ip j)))), (1, .inr (.inr (some q))), (0, .inr (.inr (some 169)))]) (by intro x hx; simp only [List.mem_cons, List.not_mem_nil, or_false] at hx ⊢; rcases hx with rfl | rfl | rfl | rfl | rfl <;> simp [nI]) ?_
      exact rp_cho1 (l := l) hj hval hn (hw.1 ek2) (tsn c) 0 _ (Nat.zero_add _) hv vfk.rf
