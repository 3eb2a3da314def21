/-! The reference: INSTANCES, put together -/
def tyn (ty : Option Tre) : Nat := match ty with | none => 0 | some c => tsn c
def tyg (ty : Option Tre) (p0 : Nat) (pr : Nat → List (Tre × Nat)) : Nat → List (Tre × Nat) := match ty with | none => pr | some c => gvl c p0 (tsn c) 0 pr
theorem spl_len {cs : List Tre} {j : Nat} : ∀ m k pr, ((spl cs j m k pr 2).length + (spl cs j m k pr 3).length ≤ (pr 2).length + (pr 3).length + m) ∧ spl cs j m k pr 0 = pr 0 ∧ spl cs j m k pr 1 = pr 1
  | 0, _, _ => ⟨Nat.le_refl _, rfl, rfl⟩
  | m + 1, k, pr => by
    rw [spl]
    by_cases e : tkd (nth cs k) = 38
    · rw [if_pos e]
      obtain ⟨h1, h2, h3⟩ := spl_len (cs := cs) (j := j) m (k + 1) (pup pr 2 (pr 2 ++ [(tkk (nth cs k) 0, j)]))
      refine ⟨?_, h2, h3⟩
      rw [show (pup pr 2 (pr 2 ++ [(tkk (nth cs k) 0, j)])) 2 = pr 2 ++ [(tkk (nth cs k) 0, j)] from rfl, show (pup pr 2 (pr 2 ++ [(tkk (nth cs k) 0, j)])) 3 = pr 3 from rfl, show (pr 2 ++ [(tkk (nth cs k) 0, j)]).length = (pr 2).length + 1 by rw [List.length_append]; rfl] at h1
      omega
    · rw [if_neg e]
      by_cases e2 : tkd (nth cs k) = 37
      · rw [if_pos e2]
        obtain ⟨h1, h2, h3⟩ := spl_len (cs := cs) (j := j) m (k + 1) (pup pr 3 (pr 3 ++ [(tkk (nth cs k) 0, j)]))
        refine ⟨?_, h2, h3⟩
        rw [show (pup pr 3 (pr 3 ++ [(tkk (nth cs k) 0, j)])) 3 = pr 3 ++ [(tkk (nth cs k) 0, j)] from rfl, show (pup pr 3 (pr 3 ++ [(tkk (nth cs k) 0, j)])) 2 = pr 2 from rfl, show (pr 3 ++ [(tkk (nth cs k) 0, j)]).length = (pr 3).length + 1 by rw [List.length_append]; rfl] at h1
        omega
      · rw [if_neg e2]
        obtain ⟨h1, h2, h3⟩ := spl_len (cs := cs) (j := j) m (k + 1) pr
        exact ⟨by omega, h2, h3⟩
theorem gvl_len {c : Tre} {p0 : Nat} : ∀ m k pr, (gvl c p0 m k pr 0).length = (pr 0).length + m ∧ gvl c p0 m k pr 1 = pr 1 ∧ gvl c p0 m k pr 2 = pr 2 ∧ gvl c p0 m k pr 3 = pr 3
  | 0, _, _ => ⟨rfl, rfl, rfl, rfl⟩
  | m + 1, k, pr => by
    rw [gvl]
    obtain ⟨h1, h2, h3, h4⟩ := gvl_len (c := c) (p0 := p0) m (k + 1) (pup pr 0 (pr 0 ++ [(tkk c k, p0)]))
    refine ⟨?_, h2, h3, h4⟩
    rw [show (pup pr 0 (pr 0 ++ [(tkk c k, p0)])) 0 = pr 0 ++ [(tkk c k, p0)] from rfl, show (pr 0 ++ [(tkk c k, p0)]).length = (pr 0).length + 1 by rw [List.length_append]; rfl] at h1
    omega
theorem ist_eq {ms : List Mdl} {f mi p0 n en : Nat} {ty : Option Tre} {Iv : Nat → Ins} {pr : Nat → List (Tre × Nat)} : ist ms (f + 1) mi p0 ty (n, Iv, pr, en) = if 200 ≤ n then some none else (match ipl ms (fun a b c σ => ist ms f a b (some c) σ) (mth ms mi).2.2 n (mth ms mi).2.2.length 0 (n + 1, iup Iv n (mi, (pr 0).length, (fun _ => 0), (fun _ => none), (fun _ => 0)), tyg ty p0 pr, en + tyn ty) with
    | none => none
    | some none => some none
    | some (some (n', Iv', pr', en')) => if 4000 < en' then some none else some (some (n', Iv', spl (mth ms mi).2.2 n (mth ms mi).2.2.length 0 pr', en'))) := by cases ty <;> rfl
theorem ist_step {ms : List Mdl} {f mi p0 n en : Nat} {ty : Option Tre} {Iv : Nat → Ins} {pr : Nat → List (Tre × Nat)} {rs : Option Sg} (hn : n < 200) (h : ist ms (f + 1) mi p0 ty (n, Iv, pr, en) = some rs) : ∃ R, ipl ms (fun a b c σ => ist ms f a b (some c) σ) (mth ms mi).2.2 n (mth ms mi).2.2.length 0 (n + 1, iup Iv n (mi, (pr 0).length, (fun _ => 0), (fun _ => none), (fun _ => 0)), tyg ty p0 pr, en + tyn ty) = some R ∧ (R = none → rs = none) ∧ ∀ n1 Iv1 pr1 en1, R = some (n1, Iv1, pr1, en1) → (4000 < en1 → rs = none) ∧ (en1 ≤ 4000 → rs = some (n1, Iv1, spl (mth ms mi).2.2 n (mth ms mi).2.2.length 0 pr1, en1)) := by
  rw [ist_eq, if_neg (by omega)] at h
  cases hr : ipl ms (fun a b c σ => ist ms f a b (some c) σ) (mth ms mi).2.2 n (mth ms mi).2.2.length 0 (n + 1, iup Iv n (mi, (pr 0).length, (fun _ => 0), (fun _ => none), (fun _ => 0)), tyg ty p0 pr, en + tyn ty) with
  | none => rw [hr] at h; cases h
  | some R =>
    rw [hr] at h
    refine ⟨R, rfl, fun z => ?_, fun n1 Iv1 pr1 en1 z => ?_⟩
    · subst z; cases h; rfl
    · subst z
      have h : (if 4000 < en1 then some none else some (some (n1, Iv1, spl (mth ms mi).2.2 n (mth ms mi).2.2.length 0 pr1, en1))) = some rs := h
      refine ⟨fun z => ?_, fun z => ?_⟩
      · rw [if_pos z] at h; cases h; rfl
      · rw [if_neg (by omega)] at h; cases h; rfl
set_option maxRecDepth 8000 in
theorem rp_ins {T : Nat → Int32} {n0 dep lv r cap mp A0 B0 SB EM : Nat} {t : Tok} {F : Nat → Prop} {ms : List Mdl} {sy : List (List Int32)} {Hb : mu_H} {EX : mu_H → Prop} {Xf : Nat → Nat} (hF : ∀ p, F p → p < mu_z Hb) (ht0 : rtx Hb F lv r ms) (hwf : ∀ i, i < ms.length → mdw (mth ms i)) (hmtx : ∀ mi, mi < ms.length → ∀ k, k < (mth ms mi).2.2.length → tkd (nth (mth ms mi).2.2 k) = 73 → tkd (tkk (nth (mth ms mi).2.2 k) 0) = 72 → ∃ i, mtx ms (nam (tkk (nth (mth ms mi).2.2 k) 0)) = some i) (hSB : ∀ mi, mi < ms.length → 3 * (mth ms mi).2.2.length + 6 ≤ SB) (hXf : ∀ mi, mi < ms.length → 4000 ≤ Xf mi ∧ Xf mi + (mth ms mi).2.2.length ≤ EM) (hXc : ∀ mi k i, mi < ms.length → k < (mth ms mi).2.2.length → tkd (nth (mth ms mi).2.2 k) = 73 → tkd (tkk (nth (mth ms mi).2.2 k) 0) = 72 → mtx ms (nam (tkk (nth (mth ms mi).2.2 k) 0)) = some i → Xf mi + (mth ms mi).2.2.length + tsn (tkk (nth (mth ms mi).2.2 k) 0) ≤ Xf i) (hQ : mu_z Hb + A0 + 800 + 2 * EM + 400 ≤ 1000000) (hEX : ∀ H loc n Iv pr en, bmk T n0 t dep F lv r ms cap sy Hb mp (A0 + 4 * n) (B0 + n * SB) loc n Iv pr en H → EX (mu_ex H)) : ∀ (f mi m p0 s n en d : Nat) (po tyo : Option Nat) (ty : Option Tre) (H : mu_H) (loc : Nat → Nat) (Iv : Nat → Ins) (pr : Nat → List (Tre × Nat)) (rs : Option Sg), ist ms f mi p0 ty (n, Iv, pr, en) = some rs → mi < ms.length → mu_r Hb r mi = some m → bmk T n0 t dep F lv r ms cap sy Hb mp (A0 + 4 * n) (B0 + n * SB) loc n Iv pr en H → ((ty = none ∧ tyo = none) ∨ ∃ c tq, ty = some c ∧ tyo = some tq ∧ nd Hb F lv tq c ∧ p0 < n ∧ po = some (loc (9 + 4 * p0))) → ivb s pr en → en + tyn ty ≤ Xf mi → 201 - n ≤ d → mu_TE 3 (mu_D (d + 7)) 458 [.inr (.inr (some 169)), .inr (.inr (some m)), .inr (.inr po), .inr (.inr tyo)] H (fun H1 => rs = none ∧ EX H1) (fun v H1 => ∃ n' Iv' pr' en' loc', rs = some (n', Iv', pr', en') ∧ v = some (.inr (.inr (some (loc' (9 + 4 * n))))) ∧ n < n' ∧ bmk T n0 t dep F lv r ms cap sy Hb mp (A0 + 4 * n') (B0 + n' * SB) loc' n' Iv' pr' en' H1 ∧ (∀ s, 9 ≤ s → s < 9 + 4 * n → loc' s = loc s) ∧ (∀ s, s < n → Iv' s = Iv s) ∧ ivb s pr' en' ∧ en' ≤ 4000)
  | 0, mi, m, p0, s, n, en, d, po, tyo, ty, H, loc, Iv, pr, rs, hi, hmi, hm1, h, hty, hiv, hen, hd => by
    rw [ist] at hi; cases hi
  | f + 1, mi, m, p0, s, n, en, d, po, tyo, ty, H, loc, Iv, pr, rs, hi, hmi, hm1, h, hty, hiv, hen, hd => by
    obtain ⟨m', hm', hm0⟩ := ht0.2.2.2.2.1 mi hmi
    have em : m' = m := Option.some.inj (hm'.symm.trans hm1)
    subst em
    have hm0 : mdf Hb F lv m' (mth ms mi) := hm0
    have hn200 : n ≤ 200 := h.2.1.2.2.1.2.2.1
    obtain ⟨d1, rfl⟩ : ∃ d1, d = d1 + 1 := ⟨d - 1, by omega⟩
    have hX := hXf mi hmi
    have hplx : plx pr ≤ 2 * en := by unfold plx; have := hiv.1; have := hiv.2; omega
    refine mu_meth (M := mu_m458) rfl rfl ?_
    refine mw_ht (mu_fn_of (show [0, 1, 2, 3].Nodup by decide)) ?_
    show mu_W _ _ (0, [(0, .inr (.inr (some 169))), (1, .inr (.inr (some m'))), (2, .inr (.inr po)), (3, .inr (.inr tyo))], [], H) _
    refine mw_sub (L' := [(3, .inr (.inr tyo)), (2, .inr (.inr po)), (1, .inr (.inr (some m'))), (0, .inr (.inr (some 169)))]) (by intro x hx; simp only [List.mem_cons, List.not_mem_nil, or_false] at hx ⊢; rcases hx with rfl | rfl | rfl | rfl <;> simp) ?_
    refine rp_in0 (d := d1 + 1) hm0 hF ht0 hmi hm1 h (by omega) (hSB mi hmi) (fun hn => ?_) (fun hn H1 loc1 h1 ag1 => ?_)
    · refine Or.inl ⟨_, rfl, ?_, hEX _ _ _ _ _ _ h⟩
      rw [ist_eq, if_pos hn] at hi; exact (Option.some.inj hi).symm
    · obtain ⟨R, hR, hRn, hRs⟩ := ist_step hn hi
      have hiv1 : ivb s (tyg ty p0 pr) (en + tyn ty) := by
        cases ty with
        | none => exact hiv
        | some c =>
          obtain ⟨g1, g2, g3, g4⟩ := gvl_len (c := c) (p0 := p0) (tsn c) 0 pr
          have := hiv.1; have := hiv.2
          refine ⟨?_, ?_⟩
          · show (gvl c p0 (tsn c) 0 pr 0).length + (gvl c p0 (tsn c) 0 pr 1).length ≤ en + tsn c
            rw [g1, g2]; omega
          · show (gvl c p0 (tsn c) 0 pr 2).length + (gvl c p0 (tsn c) 0 pr 3).length + s ≤ en + tsn c
            rw [g3, g4]; omega
      have tail : ∀ H2 loc2, bmk T n0 t dep F lv r ms cap sy Hb mp (A0 + 4 * (n + 1)) (B0 + (n + 1) * SB) loc2 (n + 1) (iup Iv n (mi, (pr 0).length, (fun _ => 0), (fun _ => none), (fun _ => 0))) (tyg ty p0 pr) (en + tyn ty) H2 → (∀ s, 9 ≤ s → loc2 s = loc1 s) → mu_W (mu_D (d1 + 1 + 6)) mu_m458 (118, [(4, .inr (.inr (some (loc1 (9 + 4 * n))))), (1, .inr (.inr (some m'))), (0, .inr (.inr (some 169)))], [], H2) (fun q9 => (∃ H1, q9 = (.inr 3, H1) ∧ rs = none ∧ EX H1) ∨ ∃ v H1, q9 = (.inl v, H1) ∧ ∃ n' Iv' pr' en' loc', rs = some (n', Iv', pr', en') ∧ v = some (.inr (.inr (some (loc' (9 + 4 * n))))) ∧ n < n' ∧ bmk T n0 t dep F lv r ms cap sy Hb mp (A0 + 4 * n') (B0 + n' * SB) loc' n' Iv' pr' en' H1 ∧ (∀ s, 9 ≤ s → s < 9 + 4 * n → loc' s = loc s) ∧ (∀ s, s < n → Iv' s = Iv s) ∧ ivb s pr' en' ∧ en' ≤ 4000) := fun H2 loc2 h2 ag2 => by
        refine rp_inT (d := d1 + 1) (X := Xf mi) (EM := EM) (EX := EX) (s0 := s) (R := R) (loc0 := loc) (Iv0 := Iv) (rec := fun a b c σ => ist ms f a b (some c) σ) hm0 (hwf mi hmi) hF ht0 hX hQ (hmtx mi hmi) (fun k i m2 tq n2 c H3 loc3 Iv3 pr3 en3 rs3 hk e2 ec e3 hi3 hm3 hnd h3 hip3 hj3 iv3 en3_ hre => ?_) (fun e H3 hE => Or.inl ⟨_, rfl, hRn e, hE⟩) (fun H3 loc3 n3 Iv3 pr3 en3 e hgt h3 => Or.inl ⟨_, rfl, (hRs _ _ _ _ e).1 hgt, hEX _ _ _ _ _ _ h3⟩) (fun H3 loc3 n3 Iv3 pr3 en3 e hle h3 hip3 hj3 ag3 gv3 iv3 => ?_) h2 (ag2 _ (by omega)) (Nat.lt_succ_self n) (by unfold iup; rw [if_pos rfl]) (fun s hs hs2 => (ag2 s hs).trans (ag1 s hs2)) (fun s hs => if_neg (by omega)) hiv1 (by omega) hR
        · subst ec
          exact rp_ins hF ht0 hwf hmtx hSB hXf hXc hQ hEX f i m2 n (s + k + 1) n2 en3 d1 (some (loc1 (9 + 4 * n))) (some tq) (some _) H3 loc3 Iv3 pr3 rs3 hre (by have := (fio_some _ _ _ hi3).2.2.1; omega) hm3 h3 (Or.inr ⟨_, tq, rfl, rfl, hnd, hj3, by rw [hip3]⟩) iv3 (by have := hXc mi k i hmi hk e2 e3 hi3; show en3 + tsn _ ≤ _; omega) (by omega)
        · obtain ⟨l1, l2, l3⟩ := spl_len (cs := (mth ms mi).2.2) (j := n) (mth ms mi).2.2.length 0 pr3
          refine Or.inr ⟨_, _, rfl, n3, Iv3, _, en3, loc3, (hRs _ _ _ _ e).2 hle, by rw [hip3], hj3, h3, ag3, gv3, ⟨?_, ?_⟩, hle⟩
          · rw [l2, l3]; exact iv3.1
          · have := iv3.2; omega
      rcases hty with ⟨rfl, rfl⟩ | ⟨c, tq, rfl, rfl, hnd, hp0, rfl⟩
      · refine mw_go mu_g458 (k := 1) (f1 := (73, [(5, .inl (nI 0)), (4, .inr (.inr (some (loc1 (9 + 4 * n))))), (3, .inr (.inr none)), (2, .inr (.inr po)), (1, .inr (.inr (some m'))), (0, .inr (.inr (some 169)))], [.inr (.inr none)], H1)) (C := []) rfl trivial ?_
        refine mw_if (P := none = none) (a := 118) (b := 76) (fun _ => rfl) (show none ≠ some 3000000 from fun z => by cases z) (fun h3 => ?_) (fun h3 => absurd rfl h3)
        refine mw_sub (L' := [(4, .inr (.inr (some (loc1 (9 + 4 * n))))), (1, .inr (.inr (some m'))), (0, .inr (.inr (some 169)))]) (by simp) ?_
        exact tail H1 loc1 h1 (fun _ _ => rfl)
      · refine rp_in1 (d := d1 + 1) (c := c) (pi := p0) (pip := loc (9 + 4 * p0)) (Q := 2 * EM) (PR := gvl c p0 (tsn c) 0 pr) (loc0 := loc1) (en0 := en) hnd hF (by omega) (by omega) (fun H2 loc2 h2 _ ag2 => tail H2 loc2 h2 ag2) (tsn c) 0 H1 loc1 pr en (Nat.zero_add _) rfl h1 (ag1 _ (by omega)) (fun _ _ => rfl) (by have : en + tsn c ≤ Xf mi := hen; omega) rfl
