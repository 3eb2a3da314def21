/-! THE MACHINE: what code means, lane by lane -/
def plen (o a : Nat) : Nat := if o ≤ 3 then 0 else if (9 ≤ o ∧ o ≤ 15) ∨ o = 27 ∨ o = 32 then 1 else if o = 30 then a + 1 else if o = 33 then a else if o = 31 then 2 * a else if o = 34 then 2 * a else 2
def oc (Y : Ts) (q : Nat) : Nat := ((Y 0).2 q 0).toNatClampNeg
def oa (Y : Ts) (q : Nat) : Nat := ((Y 0).2 q 1).toNatClampNeg
/-- how many parts are open behind n operators from a on -/
def tpz (Y : Ts) (a : Nat) : Nat → Nat
  | 0 => 0
  | n + 1 => tpz Y a n - plen (oc Y (a + n)) (oa Y (a + n)) + 1
/-- how many choices have been made -/
def snz (Y : Ts) (a : Nat) : Nat → Nat
  | 0 => 0
  | n + 1 => if oc Y (a + n) = 32 ∨ oc Y (a + n) = 33 then snz Y a n + 1 else snz Y a n
/-- how many parts they have -/
def sfz (Y : Ts) (a : Nat) : Nat → Nat
  | 0 => 0
  | n + 1 => if oc Y (a + n) = 32 ∨ oc Y (a + n) = 33 then sfz Y a n + plen (oc Y (a + n)) (oa Y (a + n)) else sfz Y a n
/-- where the parts of a choice begin -/
def fszU (Y : Ts) (a : Nat) : Nat → Nat → Nat
  | 0, _ => 0
  | n + 1, c => if (oc Y (a + n) = 32 ∨ oc Y (a + n) = 33) ∧ c = snz Y a n + 1 then sfz Y a n + plen (oc Y (a + n)) (oa Y (a + n)) else fszU Y a n c
/-- the open parts -/
def svz (Y : Ts) (lv : Nat → Int32) (a : Nat) : Nat → Nat → Int32
  | 0, _ => 0
  | n + 1, k => if k = tpz Y a n - plen (oc Y (a + n)) (oa Y (a + n)) then (if oc Y (a + n) ≤ 3 then lv (a + n) else if oc Y (a + n) = 32 ∨ oc Y (a + n) = 33 then nI (snz Y a n) else ro (svz Y lv a n) (nI (oc Y (a + n))) (tpz Y a n - plen (oc Y (a + n)) (oa Y (a + n))) (tpz Y a n)) else svz Y lv a n k
/-- the parts of the choices -/
def kvz (Y : Ts) (lv : Nat → Int32) (a : Nat) : Nat → Nat → Int32
  | 0, _ => 0
  | n + 1, x => if (oc Y (a + n) = 32 ∨ oc Y (a + n) = 33) ∧ sfz Y a n ≤ x then svz Y lv a n (tpz Y a n - plen (oc Y (a + n)) (oa Y (a + n)) + (x - sfz Y a n)) else kvz Y lv a n x
/-- what a leaf stands for -/
def lfz (U : Ud) (Y : Ts) (B W l i q : Nat) (lv : Nat → Nat → Int32) : Prop :=
  (oc Y q < 2 ∧ ∀ j, j < l → lv j q = (Y 0).2 q 1) ∨
  ((2 ≤ oc Y q ∧ oc Y q ≤ 3) ∧ ∃ r, (Y 0).2 q 1 = nI r ∧ (sp Y (im Y i) 6 ≤ r ∧ r < sp Y (im Y i + 1) 6) ∧
    (((Y 9).2 r 2 = 5 ∧ ∀ j, j < l → lv j q = rch Y r i) ∨
     ((Y 9).2 r 2 = 3 ∧ ∃ w, rch Y r i = nI w ∧ w < 2147483648 ∧ (U.1 15).2 w 2 = -1 ∧ ∀ j, j < l → lv j q = (U.1 15).2 w 3) ∨
     ((Y 9).2 r 2 = 3 ∧ ∃ w pl sl, rch Y r i = nI w ∧ w < 2147483648 ∧ (U.1 15).2 w 2 = nI pl ∧ pl < 14 ∧ (U.1 22).2 (if oc Y q = 3 then pl + 14 else pl) 0 = nI sl ∧ sl < B ∧ ∀ j, j < l → lv j q = cvl U W sl j) ∨
     ((¬ (Y 9).2 r 2 = 3 ∧ ¬ (Y 9).2 r 2 = 5) ∧ ∃ e sl, rch Y r i = nI e ∧ e < (U.2.2.1 100 3).1 ∧ (U.2.2.1 100 3).2 e = nI sl ∧ sl < B ∧ ∀ j, j < l → lv j q = cvl U W sl j)))
/-- what a push leaves -/
def psq (U V : Ud) (O B t W l : Nat) (x : Nat → Int32) (slt : Nat) : Prop := V.2.1 100 14 = nI (t + 1) ∧ (∀ k, (V.2.2.1 100 13).2 k = if k = t then nI slt else (U.2.2.1 100 13).2 k) ∧ (slt < B ∨ slt = O + t) ∧ (∀ j, j < l → cvl V W slt j = x j) ∧ ∀ s k, s ≠ O + t → k < W → ckp V U W s k
def Fpu : Uf := ⟨[], [(100, 14)], [(100, 8), (100, 12), (100, 13)], [], [], false⟩
section Code
variable {H : mu_H} {m d A W l s t k o f O p n q i r w B slt : Nat} {C : Nat → Nat} {U V : Ud} {it : Nat → Nat} {Y : Ts} {v : Int32} {x : Nat → Int32} {lv : Nat → Nat → Int32}
theorem psO_q (hW : 1 ≤ W) (hx : ∀ j, j < l → x j = v) : psq U (psO U O t W v) O B t W l x (O + t) := by
  obtain ⟨a1, a2, a3, a4⟩ := apl (U := U) (V := upA U 100 8 ((O + t) * W) v) (O := O) (f := t) (W := W) (l := l) (n := 1) (w := 0) (R := x) (g := fun _ => v) rfl rfl (cw_A rfl) hW hW (Or.inl ⟨rfl, Nat.le_refl _, fun j hj => (hx j hj).symm⟩)
  exact ⟨a1, a2, Or.inr rfl, a3, a4⟩
theorem psS_q (hs : slt < B) (hx : ∀ j, j < l → x j = cvl U W slt j) : psq U (psS U t slt) O B t W l x slt :=
  ⟨rfl, fun _ => rfl, Or.inl hs, fun j hj => (hx j hj).symm, fun _ _ _ _ => ⟨rfl, rfl, rfl⟩⟩
theorem psO_f : uq Fpu U (psO U O t W v) := ((((uq.refl Fpu U).A rfl).A rfl).A rfl).I rfl
theorem psS_f : uq Fpu U (psS U t slt) := ((uq.refl Fpu U).A rfl).I rfl
theorem mc_pushL (h : um m H) (e : ud m H = U) (hs : mst U A W l t it) (hO : U.2.1 100 7 = nI O) (hsp : U.2.2.2.1 100 0 = some 99) (hmo : U.2.2.2.1 99 0 = some m) (hOt : O + t < A) (hA : A ≤ 16777216) (ht1 : t < (U.2.2.1 100 13).1) (hj : jv Y U.1) (hJ : JW Y) (hi : i < (Y 11).1) (hB : B ≤ O) (h3 : (U.2.2.1 100 3).1 ≤ 16777216) (hl : lfz U Y B W l i q lv) : mu_TV (mu_D (d + 3)) 218 [.inr (.inr (some 100)), .inl (nI (oc Y q)), .inl ((Y 0).2 q 1), .inl (nI i)] H (fun H1 => um m H1 ∧ ur m C H H1 ∧ uq Fpu U (ud m H1) ∧ ∃ slt, psq U (ud m H1) O B t W l (fun j => lv j q) slt) := by
  have hW1 : 1 ≤ W := by
    have h1 := hs.1.2.2.1
    have h2 := hs.1.2.2.2.1
    omega
  rcases hl with ⟨h2, hv⟩ | ⟨hkk, r, er, ⟨hr1, hr2⟩, hc⟩
  · exact (mc_push1 (C := C) h e hs hO hsp hmo hOt hA ht1 h2).imp (fun H1 z => ⟨z.1, z.2.1, by rw [z.2.2]; exact psO_f, O + t, by rw [z.2.2]; exact psO_q hW1 hv⟩)
  · rw [er]
    rcases hc with ⟨hk, hv⟩ | ⟨hk, w, ew, hw, hpl, hv⟩ | ⟨hk, w, pl, sl, ew, hw, hpl, hp14, hsl, hslB, hv⟩ | ⟨⟨hk3, hk5⟩, e0, sl, ew, he0, hsl, hslB, hv⟩
    · exact (mc_push2 (C := C) h e hs hO hsp hmo hOt hA ht1 hkk hj hJ hi hr1 hr2 hk).imp (fun H1 z => ⟨z.1, z.2.1, by rw [z.2.2]; exact psO_f, O + t, by rw [z.2.2]; exact psO_q hW1 hv⟩)
    · exact (mc_push3 (C := C) h e hs hO hsp hmo hOt hA ht1 hkk hj hJ hi hr1 hr2 hk ew hw hpl).imp (fun H1 z => ⟨z.1, z.2.1, by rw [z.2.2]; exact psO_f, O + t, by rw [z.2.2]; exact psO_q hW1 hv⟩)
    · exact (mc_push4 (C := C) h e hs hO hsp hmo hOt hA ht1 hkk hj hJ hi hr1 hr2 hk ew hw hpl hp14 hsl (by omega)).imp (fun H1 z => ⟨z.1, z.2.1, by rw [z.2.2]; exact psS_f, sl, by rw [z.2.2]; exact psS_q hslB hv⟩)
    · exact (mc_push5 (C := C) h e hs hO hsp hmo hOt hA ht1 hkk hj hJ hi hr1 hr2 hk3 hk5 ew he0 h3 hsl (by omega)).imp (fun H1 z => ⟨z.1, z.2.1, by rw [z.2.2]; exact psS_f, sl, by rw [z.2.2]; exact psS_q hslB hv⟩)
theorem lfz_keep (hl : lfz U Y B W l i q lv) (hlW : l ≤ W) (h15 : V.1 15 = U.1 15) (h22 : V.1 22 = U.1 22) (h3 : V.2.2.1 100 3 = U.2.2.1 100 3) (hc : ∀ s k, s < B → k < W → cvl V W s k = cvl U W s k) : lfz V Y B W l i q lv := by
  unfold lfz
  rw [h15, h22, h3]
  rcases hl with z | ⟨hkk, r, er, hr, hq⟩
  · exact Or.inl z
  · refine Or.inr ⟨hkk, r, er, hr, ?_⟩
    rcases hq with z | z | ⟨hk, w, pl, sl, z1, z2, z3, z4, z5, z6, z7⟩ | ⟨hk, e, sl, z1, z2, z3, z4, z5⟩
    · exact Or.inl z
    · exact Or.inr (Or.inl z)
    · exact Or.inr (Or.inr (Or.inl ⟨hk, w, pl, sl, z1, z2, z3, z4, z5, z6, fun j hj => (z7 j hj).trans (hc sl j z6 (by omega)).symm⟩))
    · exact Or.inr (Or.inr (Or.inr ⟨hk, e, sl, z1, z2, z3, z4, fun j hj => (z5 j hj).trans (hc sl j z4 (by omega)).symm⟩))
theorem kin_len {o a : Nat} : (kin o a).length = plen o a := by
  unfold kin plen
  split
  · rfl
  · split
    · rfl
    · split
      · exact List.length_replicate
      · split
        · exact List.length_replicate
        · split
          · exact List.length_replicate
          · split
            · exact rep2_len a
            · rfl
end Code
section PartsOf
variable {H : mu_H} {d o a : Nat} {arg : Int32}
theorem pv_parts2 (ho : o ≤ 34) (hoa : o = 30 ∨ o = 31 ∨ o = 33 ∨ o = 34 → arg = nI a) (hab : o = 30 ∨ o = 31 ∨ o = 33 ∨ o = 34 → a ≤ 16777216) : mu_TI (mu_D (d + 1)) 379 [.inl (nI o), .inl arg] H (fun x H1 => x = nI (plen o a) ∧ H1 = H) := by
  refine mu_meth (M := mu_m379) rfl rfl ?_
  refine mw_ht (mu_fn_of (show [0, 1].Nodup by decide)) ?_
  refine mw_go mu_g379 (k := 2) (f1 := (2, [(0, .inl (nI o)), (1, .inl arg)], [.inl (3 : Int32), .inl (nI o)], H)) (C := []) rfl trivial ?_
  refine mw_if (P := (3 : Int32) < (nI o)) (a := 7) (b := 5) (fun _ => rfl) trivial (fun h1 => ?_) (fun h1 => ?_)
  · -- 7: (3 : Int32) < (nI o)
    have nh1 : 3 < o := (nI_ltI (by omega) (by omega)).mp (show nI 3 < nI o from h1)
    refine mw_go mu_g379 (k := 2) (f1 := (10, [(0, .inl (nI o)), (1, .inl arg)], [.inl (9 : Int32), .inl (nI o)], H)) (C := []) rfl trivial ?_
    refine mw_if (P := (nI o) < (9 : Int32)) (a := 19) (b := 13) (fun _ => rfl) trivial (fun h2 => ?_) (fun h2 => ?_)
    · -- 19: (nI o) < (9 : Int32)
      have nh2 : o < 9 := (nI_ltI (by omega) (by omega)).mp (show nI o < nI 9 from h2)
      refine mw_go mu_g379 (k := 2) (f1 := (22, [(0, .inl (nI o)), (1, .inl arg)], [.inl (27 : Int32), .inl (nI o)], H)) (C := []) rfl trivial ?_
      refine mw_if (P := (nI o) = (27 : Int32)) (a := 31) (b := 25) (fun _ => rfl) trivial (fun h3 => ?_) (fun h3 => ?_)
      · -- 31: (nI o) = (27 : Int32)
        have nh3 : o = 27 := (nI_eq (by omega) (by omega)).mp (show nI o = nI 27 from h3)
        refine mw_go mu_g379 (k := 1) (f1 := (32, [(0, .inl (nI o)), (1, .inl arg)], [.inl (1 : Int32)], H)) (C := []) rfl trivial ?_
        exact mw_of (fun _ => mu_ret rfl trivial ⟨_, _, rfl, (congrArg nI (show 1 = plen o a by unfold plen; (repeat (first | rw [if_pos (by omega)] | rw [if_neg (by omega)])); all_goals omega)), rfl⟩)
      · -- 25: not (nI o) = (27 : Int32)
        have nh3 : ¬ o = 27 := fun z => h3 (show nI o = nI 27 from (nI_eq (by omega) (by omega)).mpr z)
        refine mw_go mu_g379 (k := 2) (f1 := (28, [(0, .inl (nI o)), (1, .inl arg)], [.inl (32 : Int32), .inl (nI o)], H)) (C := []) rfl trivial ?_
        refine mw_if (P := (nI o) = (32 : Int32)) (a := 31) (b := 33) (fun _ => rfl) trivial (fun h4 => ?_) (fun h4 => ?_)
        · -- 31: (nI o) = (32 : Int32)
          have nh4 : o = 32 := (nI_eq (by omega) (by omega)).mp (show nI o = nI 32 from h4)
          refine mw_go mu_g379 (k := 1) (f1 := (32, [(0, .inl (nI o)), (1, .inl arg)], [.inl (1 : Int32)], H)) (C := []) rfl trivial ?_
          exact mw_of (fun _ => mu_ret rfl trivial ⟨_, _, rfl, (congrArg nI (show 1 = plen o a by unfold plen; (repeat (first | rw [if_pos (by omega)] | rw [if_neg (by omega)])); all_goals omega)), rfl⟩)
        · -- 33: not (nI o) = (32 : Int32)
          have nh4 : ¬ o = 32 := fun z => h4 (show nI o = nI 32 from (nI_eq (by omega) (by omega)).mpr z)
          refine mw_go mu_g379 (k := 1) (f1 := (34, [(0, .inl (nI o)), (1, .inl arg)], [.inl (nI o)], H)) (C := []) rfl trivial ?_
          refine mw_tsw2 rfl (by decide) (fun hy => ?_) ⟨fun z => ?_, fun z => ?_, fun z => ?_, fun z => ?_, fun z => ?_, trivial⟩
          · rw [nI_toInt (by omega)] at hy
            refine mw_go mu_g379 (k := 1) (f1 := (79, [(0, .inl (nI o)), (1, .inl arg)], [.inl (2 : Int32)], H)) (C := []) rfl trivial ?_
            exact mw_of (fun _ => mu_ret rfl trivial ⟨_, _, rfl, (congrArg nI (show 2 = plen o a by unfold plen; (repeat (first | rw [if_pos (by omega)] | rw [if_neg (by omega)])); all_goals omega)), rfl⟩)
          · rw [nI_toInt (by omega)] at z
            rw [hoa (by omega)]
            have ha := hab (by omega)
            refine mw_go mu_g379 (k := 3) (f1 := (71, [(0, .inl (nI o)), (1, .inl (nI a))], [.inl ((nI a) + (1 : Int32))], H)) (C := []) rfl trivial ?_
            rw [(show ((nI a) + (1 : Int32)) = (nI (a + 1)) from (nI_add a 1))]
            exact mw_of (fun _ => mu_ret rfl trivial ⟨_, _, rfl, (congrArg nI (show a + 1 = plen o a by unfold plen; (repeat (first | rw [if_pos (by omega)] | rw [if_neg (by omega)])); all_goals omega)), rfl⟩)
          · rw [nI_toInt (by omega)] at z
            rw [hoa (by omega)]
            have ha := hab (by omega)
            refine mw_go mu_g379 (k := 3) (f1 := (77, [(0, .inl (nI o)), (1, .inl (nI a))], [.inl ((2 : Int32) * (nI a))], H)) (C := []) rfl trivial ?_
            rw [(show ((2 : Int32) * (nI a)) = (nI (2 * a)) from (nI_mul (a := 2) (b := a)))]
            exact mw_of (fun _ => mu_ret rfl trivial ⟨_, _, rfl, (congrArg nI (show 2 * a = plen o a by unfold plen; (repeat (first | rw [if_pos (by omega)] | rw [if_neg (by omega)])); all_goals omega)), rfl⟩)
          · rw [nI_toInt (by omega)] at z
            refine mw_go mu_g379 (k := 1) (f1 := (79, [(0, .inl (nI o)), (1, .inl arg)], [.inl (2 : Int32)], H)) (C := []) rfl trivial ?_
            exact mw_of (fun _ => mu_ret rfl trivial ⟨_, _, rfl, (congrArg nI (show 2 = plen o a by unfold plen; (repeat (first | rw [if_pos (by omega)] | rw [if_neg (by omega)])); all_goals omega)), rfl⟩)
          · rw [nI_toInt (by omega)] at z
            rw [hoa (by omega)]
            have ha := hab (by omega)
            refine mw_go mu_g379 (k := 1) (f1 := (73, [(0, .inl (nI o)), (1, .inl (nI a))], [.inl (nI a)], H)) (C := []) rfl trivial ?_
            exact mw_of (fun _ => mu_ret rfl trivial ⟨_, _, rfl, (congrArg nI (show a = plen o a by unfold plen; (repeat (first | rw [if_pos (by omega)] | rw [if_neg (by omega)])); all_goals omega)), rfl⟩)
          · rw [nI_toInt (by omega)] at z
            rw [hoa (by omega)]
            have ha := hab (by omega)
            refine mw_go mu_g379 (k := 3) (f1 := (77, [(0, .inl (nI o)), (1, .inl (nI a))], [.inl ((2 : Int32) * (nI a))], H)) (C := []) rfl trivial ?_
            rw [(show ((2 : Int32) * (nI a)) = (nI (2 * a)) from (nI_mul (a := 2) (b := a)))]
            exact mw_of (fun _ => mu_ret rfl trivial ⟨_, _, rfl, (congrArg nI (show 2 * a = plen o a by unfold plen; (repeat (first | rw [if_pos (by omega)] | rw [if_neg (by omega)])); all_goals omega)), rfl⟩)
    · -- 13: not (nI o) < (9 : Int32)
      have nh2 : ¬ o < 9 := fun z => h2 (show nI o < nI 9 from (nI_ltI (by omega) (by omega)).mpr z)
      refine mw_go mu_g379 (k := 2) (f1 := (16, [(0, .inl (nI o)), (1, .inl arg)], [.inl (15 : Int32), .inl (nI o)], H)) (C := []) rfl trivial ?_
      refine mw_if (P := (15 : Int32) < (nI o)) (a := 19) (b := 31) (fun _ => rfl) trivial (fun h5 => ?_) (fun h5 => ?_)
      · -- 19: (15 : Int32) < (nI o)
        have nh5 : 15 < o := (nI_ltI (by omega) (by omega)).mp (show nI 15 < nI o from h5)
        refine mw_go mu_g379 (k := 2) (f1 := (22, [(0, .inl (nI o)), (1, .inl arg)], [.inl (27 : Int32), .inl (nI o)], H)) (C := []) rfl trivial ?_
        refine mw_if (P := (nI o) = (27 : Int32)) (a := 31) (b := 25) (fun _ => rfl) trivial (fun h6 => ?_) (fun h6 => ?_)
        · -- 31: (nI o) = (27 : Int32)
          have nh6 : o = 27 := (nI_eq (by omega) (by omega)).mp (show nI o = nI 27 from h6)
          refine mw_go mu_g379 (k := 1) (f1 := (32, [(0, .inl (nI o)), (1, .inl arg)], [.inl (1 : Int32)], H)) (C := []) rfl trivial ?_
          exact mw_of (fun _ => mu_ret rfl trivial ⟨_, _, rfl, (congrArg nI (show 1 = plen o a by unfold plen; (repeat (first | rw [if_pos (by omega)] | rw [if_neg (by omega)])); all_goals omega)), rfl⟩)
        · -- 25: not (nI o) = (27 : Int32)
          have nh6 : ¬ o = 27 := fun z => h6 (show nI o = nI 27 from (nI_eq (by omega) (by omega)).mpr z)
          refine mw_go mu_g379 (k := 2) (f1 := (28, [(0, .inl (nI o)), (1, .inl arg)], [.inl (32 : Int32), .inl (nI o)], H)) (C := []) rfl trivial ?_
          refine mw_if (P := (nI o) = (32 : Int32)) (a := 31) (b := 33) (fun _ => rfl) trivial (fun h7 => ?_) (fun h7 => ?_)
          · -- 31: (nI o) = (32 : Int32)
            have nh7 : o = 32 := (nI_eq (by omega) (by omega)).mp (show nI o = nI 32 from h7)
            refine mw_go mu_g379 (k := 1) (f1 := (32, [(0, .inl (nI o)), (1, .inl arg)], [.inl (1 : Int32)], H)) (C := []) rfl trivial ?_
            exact mw_of (fun _ => mu_ret rfl trivial ⟨_, _, rfl, (congrArg nI (show 1 = plen o a by unfold plen; (repeat (first | rw [if_pos (by omega)] | rw [if_neg (by omega)])); all_goals omega)), rfl⟩)
          · -- 33: not (nI o) = (32 : Int32)
            have nh7 : ¬ o = 32 := fun z => h7 (show nI o = nI 32 from (nI_eq (by omega) (by omega)).mpr z)
            refine mw_go mu_g379 (k := 1) (f1 := (34, [(0, .inl (nI o)), (1, .inl arg)], [.inl (nI o)], H)) (C := []) rfl trivial ?_
            refine mw_tsw2 rfl (by decide) (fun hy => ?_) ⟨fun z => ?_, fun z => ?_, fun z => ?_, fun z => ?_, fun z => ?_, trivial⟩
            · rw [nI_toInt (by omega)] at hy
              refine mw_go mu_g379 (k := 1) (f1 := (79, [(0, .inl (nI o)), (1, .inl arg)], [.inl (2 : Int32)], H)) (C := []) rfl trivial ?_
              exact mw_of (fun _ => mu_ret rfl trivial ⟨_, _, rfl, (congrArg nI (show 2 = plen o a by unfold plen; (repeat (first | rw [if_pos (by omega)] | rw [if_neg (by omega)])); all_goals omega)), rfl⟩)
            · rw [nI_toInt (by omega)] at z
              rw [hoa (by omega)]
              have ha := hab (by omega)
              refine mw_go mu_g379 (k := 3) (f1 := (71, [(0, .inl (nI o)), (1, .inl (nI a))], [.inl ((nI a) + (1 : Int32))], H)) (C := []) rfl trivial ?_
              rw [(show ((nI a) + (1 : Int32)) = (nI (a + 1)) from (nI_add a 1))]
              exact mw_of (fun _ => mu_ret rfl trivial ⟨_, _, rfl, (congrArg nI (show a + 1 = plen o a by unfold plen; (repeat (first | rw [if_pos (by omega)] | rw [if_neg (by omega)])); all_goals omega)), rfl⟩)
            · rw [nI_toInt (by omega)] at z
              rw [hoa (by omega)]
              have ha := hab (by omega)
              refine mw_go mu_g379 (k := 3) (f1 := (77, [(0, .inl (nI o)), (1, .inl (nI a))], [.inl ((2 : Int32) * (nI a))], H)) (C := []) rfl trivial ?_
              rw [(show ((2 : Int32) * (nI a)) = (nI (2 * a)) from (nI_mul (a := 2) (b := a)))]
              exact mw_of (fun _ => mu_ret rfl trivial ⟨_, _, rfl, (congrArg nI (show 2 * a = plen o a by unfold plen; (repeat (first | rw [if_pos (by omega)] | rw [if_neg (by omega)])); all_goals omega)), rfl⟩)
            · rw [nI_toInt (by omega)] at z
              refine mw_go mu_g379 (k := 1) (f1 := (79, [(0, .inl (nI o)), (1, .inl arg)], [.inl (2 : Int32)], H)) (C := []) rfl trivial ?_
              exact mw_of (fun _ => mu_ret rfl trivial ⟨_, _, rfl, (congrArg nI (show 2 = plen o a by unfold plen; (repeat (first | rw [if_pos (by omega)] | rw [if_neg (by omega)])); all_goals omega)), rfl⟩)
            · rw [nI_toInt (by omega)] at z
              rw [hoa (by omega)]
              have ha := hab (by omega)
              refine mw_go mu_g379 (k := 1) (f1 := (73, [(0, .inl (nI o)), (1, .inl (nI a))], [.inl (nI a)], H)) (C := []) rfl trivial ?_
              exact mw_of (fun _ => mu_ret rfl trivial ⟨_, _, rfl, (congrArg nI (show a = plen o a by unfold plen; (repeat (first | rw [if_pos (by omega)] | rw [if_neg (by omega)])); all_goals omega)), rfl⟩)
            · rw [nI_toInt (by omega)] at z
              rw [hoa (by omega)]
              have ha := hab (by omega)
              refine mw_go mu_g379 (k := 3) (f1 := (77, [(0, .inl (nI o)), (1, .inl (nI a))], [.inl ((2 : Int32) * (nI a))], H)) (C := []) rfl trivial ?_
              rw [(show ((2 : Int32) * (nI a)) = (nI (2 * a)) from (nI_mul (a := 2) (b := a)))]
              exact mw_of (fun _ => mu_ret rfl trivial ⟨_, _, rfl, (congrArg nI (show 2 * a = plen o a by unfold plen; (repeat (first | rw [if_pos (by omega)] | rw [if_neg (by omega)])); all_goals omega)), rfl⟩)
      · -- 31: not (15 : Int32) < (nI o)
        have nh5 : ¬ 15 < o := fun z => h5 (show nI 15 < nI o from (nI_ltI (by omega) (by omega)).mpr z)
        refine mw_go mu_g379 (k := 1) (f1 := (32, [(0, .inl (nI o)), (1, .inl arg)], [.inl (1 : Int32)], H)) (C := []) rfl trivial ?_
        exact mw_of (fun _ => mu_ret rfl trivial ⟨_, _, rfl, (congrArg nI (show 1 = plen o a by unfold plen; (repeat (first | rw [if_pos (by omega)] | rw [if_neg (by omega)])); all_goals omega)), rfl⟩)
  · -- 5: not (3 : Int32) < (nI o)
    have nh1 : ¬ 3 < o := fun z => h1 (show nI 3 < nI o from (nI_ltI (by omega) (by omega)).mpr z)
    refine mw_go mu_g379 (k := 1) (f1 := (6, [(0, .inl (nI o)), (1, .inl arg)], [.inl (0 : Int32)], H)) (C := []) rfl trivial ?_
    exact mw_of (fun _ => mu_ret rfl trivial ⟨_, _, rfl, (congrArg nI (show 0 = plen o a by unfold plen; (repeat (first | rw [if_pos (by omega)] | rw [if_neg (by omega)])); all_goals omega)), rfl⟩)
end PartsOf
