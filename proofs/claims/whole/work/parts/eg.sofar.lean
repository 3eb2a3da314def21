/-! RELATION as it stands: factors, wide rows, classes, and what they mean -/
def upv {α : Type} (g : Nat → α) (n : Nat) (v : α) : Nat → α := fun r => if r = n then v else g r
theorem upv_eq {α : Type} {g : Nat → α} {n : Nat} {v : α} : upv g n v n = v := if_pos rfl
theorem upv_ne {α : Type} {g : Nat → α} {n r : Nat} {v : α} (h : r < n) : upv g n v r = g r := if_neg (by omega)
section Index
variable {P s n k : Nat} {f dg : Nat → Nat} {mk : Int32}
theorem ixz_pj (hs : s < pd f 0 P) : ixz mk f (dgz f P s) P = pj mk f P P s := by
  have key : ∀ n, n ≤ P → ixz mk f (dgz f P s) P = ixz mk f (dgz f P s) (P - n) * wn mk f P n + pj mk f P n (s % pd f (P - n) n) := by
    intro n
    induction n with
    | zero =>
      intro _
      show _ = ixz mk f (dgz f P s) (P - 0) * 1 + 0
      rw [Nat.sub_zero, Nat.mul_one, Nat.add_zero]
    | succ n ih =>
      intro hn
      rw [ih (by omega)]
      obtain ⟨k, hk⟩ : ∃ k, k = P - (n + 1) := ⟨_, rfl⟩
      have e1 : P - n = k + 1 := by omega
      have e2 : P - 1 - n = k := by omega
      have hd : pd f k (n + 1) = f k * pd f (k + 1) n := pd_head n
      have e3 : dgz f P s k = s / pd f (k + 1) n % f k := by
        unfold dgz
        rw [show P - 1 - k = n by omega]
      show ixz mk f (dgz f P s) (P - n) * wn mk f P n + pj mk f P n (s % pd f (P - n) n) = ixz mk f (dgz f P s) (P - (n + 1)) * (wn mk f P n * (if mb mk (P - 1 - n) = 0 then 1 else f (P - 1 - n))) + (pj mk f P n (s % pd f (P - (n + 1)) (n + 1) % pd f (P - n) n) + (if mb mk (P - 1 - n) = 0 then 0 else s % pd f (P - (n + 1)) (n + 1) / pd f (P - n) n * wn mk f P n))
      rw [← hk, e1, e2, hd]
      have m1 : s % (f k * pd f (k + 1) n) % pd f (k + 1) n = s % pd f (k + 1) n := Nat.mod_mod_of_dvd s (Nat.dvd_mul_left _ _)
      have m2 : s % (f k * pd f (k + 1) n) / pd f (k + 1) n = s / pd f (k + 1) n % f k := by
        rw [Nat.mul_comm (f k), Nat.mod_mul_right_div_self]
      by_cases hb : mb mk k = 0
      · rw [if_pos hb, if_pos hb, show ixz mk f (dgz f P s) (k + 1) = ixz mk f (dgz f P s) k from if_pos hb, m1, Nat.mul_one]
        rfl
      · rw [if_neg hb, if_neg hb, show ixz mk f (dgz f P s) (k + 1) = ixz mk f (dgz f P s) k * f k + dgz f P s k from if_neg hb, m1, m2, ← e3, Nat.add_mul, Nat.mul_assoc, Nat.mul_comm (f k)]
        omega
  have z := key P (Nat.le_refl P)
  rw [Nat.sub_self, Nat.mod_eq_of_lt hs] at z
  rw [z]
  show 0 * _ + _ = _
  rw [Nat.zero_mul, Nat.zero_add]
theorem ixz_one (hk : k < P) (hP : P ≤ 14) : ixz ((1 : Int32) <<< (nI k &&& 31)) f dg P = dg k := by
  have key : ∀ n, n ≤ P → ixz ((1 : Int32) <<< (nI k &&& 31)) f dg n = if k < n then dg k else 0 := by
    intro n
    induction n with
    | zero => intro _; exact (if_neg (Nat.not_lt_zero k)).symm
    | succ n ih =>
      intro hn
      have ih := ih (by omega)
      have hb := mb_one (k := k) (j := n) (by omega) (by omega)
      by_cases e : n = k
      · rw [show ixz ((1 : Int32) <<< (nI k &&& 31)) f dg (n + 1) = ixz ((1 : Int32) <<< (nI k &&& 31)) f dg n * f n + dg n from if_neg (hb.mpr e), ih, if_neg (by omega), if_pos (by omega), Nat.zero_mul, Nat.zero_add, e]
      · have hb0 : mb ((1 : Int32) <<< (nI k &&& 31)) n = 0 := Decidable.not_not.mp (fun y => e (hb.mp y))
        rw [show ixz ((1 : Int32) <<< (nI k &&& 31)) f dg (n + 1) = ixz ((1 : Int32) <<< (nI k &&& 31)) f dg n from if_pos hb0, ih]
        by_cases c : k < n
        · rw [if_pos c, if_pos (by omega)]
        · rw [if_neg c, if_neg (by omega)]
  rw [key P (Nat.le_refl P), if_pos hk]
end Index
/-- the factors leave a step -/
def FCT (P : Nat) (f : Nat → Nat) (S : Nat → Nat → Bool) (nm tm : Nat → Int32) (oid : Nat → Nat → Nat) (nf s t : Nat) : Prop := ∀ r, r < nf → S (oid r (ixz (nm r) f (dgz f P s) P)) (ixz (tm r) f (dgz f P t) P) = true
/-- what STATES of one class have in common -/
def SMC (Y : Ts) (V : Ud) (P : Nat) (f od : Nat → Nat) (nf : Nat) (nm : Nat → Int32) (oid : Nat → Nat → Nat) (nw : Nat) (wa wn wi : Nat → Nat) (wk : Nat → Bool) (s s' : Nat) : Prop := (∀ r, r < nf → oid r (ixz (nm r) f (dgz f P s) P) = oid r (ixz (nm r) f (dgz f P s') P)) ∧ ∀ r, r < nw → ¬ (V.1 25).2 r 3 = -1 → ∀ v, CHSw Y V f P od (wk r) (wa r) (wn r) (wi r) s v ↔ CHSw Y V f P od (wk r) (wa r) (wn r) (wi r) s' v
/-- factors and wide rows leave a step -/
def RMN (Y : Ts) (V : Ud) (P : Nat) (f od : Nat → Nat) (S : Nat → Nat → Bool) (nf : Nat) (nm tm : Nat → Int32) (oid : Nat → Nat → Nat) (nw : Nat) (wa wn wi : Nat → Nat) (wk : Nat → Bool) (s t : Nat) : Prop := FCT P f S nm tm oid nf s t ∧ (∀ k, k < P → WCHw Y V f P od wa wn wi wk s nw k (dgz f P t k)) ∧ WTR Y V f P od wa wn wi s nw t
/-- the relation so far: G -/
def RSG (V : Ud) (Y : Ts) (es : Nat → Int32) (P : Nat) (f od : Nat → Nat) (N0 sf ou : Nat) (G : Nat → Nat → Prop) (N us : Nat) (S : Nat → Nat → Bool) (z : Nat → Nat) (p : Nat → Bool) (nf : Nat) (nm tm : Nat → Int32) (bs lv : Nat → Nat) (oid : Nat → Nat → Nat) (nw : Nat) (wa wn wi : Nat → Nat) (wk : Nat → Bool) : Prop :=
  FAC V P f nf nm tm bs lv oid N S p ∧ SOK V N us S z p ∧ WIDw Y es P (V.1 15) (V.1 25) nw wa wn wi wk ∧
  ((∀ r, r < nf → bs r + pm (nm r) f P ≤ ou) ∧ (∀ r, r < nf → ∀ j, lv r < j → j < P → mb (tm r) j = 0) ∧ nf ≤ ou) ∧
  (V.2.1 129 5 = nI ou ∧ ou ≤ (V.2.2.1 129 4).1 ∧ OLN (V.2.2.1 129 4).1 ∧ ou ≤ 32768) ∧
  (N ≤ N0 + ou ∧ V.2.1 129 21 = nI sf ∧ sf ≤ us ∧ us + 256 * (sf / 8192) ≤ sf + 256 * (us / 8192) + 65536) ∧
  (∃ cl : Nat → Nat, (∀ t, t < pd f 0 P → (V.2.2.1 129 7).2 t = nI (cl t) ∧ cl t ≤ pd f 0 P) ∧ ∀ s s', s < pd f 0 P → s' < pd f 0 P → cl s = cl s' → SMC Y V P f od nf nm oid nw wa wn wi wk s s') ∧
  ∃ al : Nat → Prop, BTS (V.2.2.2.2.1 145) (pd f 0 P) al ∧ ∀ s t, s < pd f 0 P → t < pd f 0 P → (G s t ↔ al s ∧ RMN Y V P f od S nf nm tm oid nw wa wn wi wk s t)
def RSU (V : Ud) (Y : Ts) (es : Nat → Int32) (P : Nat) (f od : Nat → Nat) (N0 sf ou : Nat) (G : Nat → Nat → Prop) : Prop := ∃ N us S z p nf nm tm bs lv oid nw wa wn wi wk, RSG V Y es P f od N0 sf ou G N us S z p nf nm tm bs lv oid nw wa wn wi wk
section SoFar
variable {U V : Ud} {m P N0 sf ou N us nf nw l spn a0 N0' i0 k s s' : Nat} {Y : Ts} {f od wa wn wi z bs lv : Nat → Nat} {nm tm : Nat → Int32} {oid : Nat → Nat → Nat} {S : Nat → Nat → Bool} {p : Nat → Bool} {es : Nat → Int32} {wk : Nat → Bool} {G : Nat → Nat → Prop} {Q : Nat → Nat → Prop} {mk tmx a b c e v : Int32} {t : Tb}
theorem tk6_eq (h : t.1 < 2147483647) : tset 6 (tput 6 t a b c e) (nI t.1) 4 v = (t.1 + 1, fun i k => if i = t.1 ∧ k = 4 then v else if i = t.1 then (if k < 6 then rw_col a b c e k else 0) else t.2 i k) := by
  unfold tset
  rw [if_neg (nI_pos (by omega)), nI_clamp (by omega), if_pos ⟨by show t.1 < t.1 + 1; omega, by decide⟩]
  rfl
theorem tk4_eq : tput 4 t a b c e = (t.1 + 1, fun i k => if i = t.1 then (if k < 4 then rw_col a b c e k else 0) else t.2 i k) := rfl
theorem CHSw_same {bb : Bool} {i : Nat} (h15 : V.1 15 = U.1 15) (h8 : V.2.2.1 99 8 = U.2.2.1 99 8) : CHSw Y V f P od bb a0 N0' i s v ↔ CHSw Y U f P od bb a0 N0' i s v := by
  unfold CHSw
  rw [vst_same (f := f) (P := P) (s := s) h15 h8]
theorem SMC.same (h : SMC Y U P f od nf nm oid nw wa wn wi wk s s') (h15 : V.1 15 = U.1 15) (h8 : V.2.2.1 99 8 = U.2.2.1 99 8) (h25 : V.1 25 = U.1 25) : SMC Y V P f od nf nm oid nw wa wn wi wk s s' := ⟨h.1, fun r hr h3 v => by
  rw [h25] at h3
  exact (CHSw_same h15 h8).trans ((h.2 r hr h3 v).trans (CHSw_same h15 h8).symm)⟩
theorem WTR_same {w t : Nat} (h15 : V.1 15 = U.1 15) (h8 : V.2.2.1 99 8 = U.2.2.1 99 8) (h25 : V.1 25 = U.1 25) : WTR Y V f P od wa wn wi s w t ↔ WTR Y U f P od wa wn wi s w t := by
  unfold WTR
  rw [h25]
  constructor
  · intro h r hr he
    have y := h r hr he
    rw [trs_same h15 h8] at y
    exact y
  · intro h r hr he
    rw [trs_same h15 h8]
    exact h r hr he
/-- a factor more -/
theorem RSG.factor (h : RSG U Y es P f od N0 sf ou G N us S z p nf nm tm bs lv oid nw wa wn wi wk) (hT : TBL U V N us S z p spn ou (pm mk f P) Q) (h24 : V.1 24 = tset 6 (tput 6 (U.1 24) mk tmx (nI ou) 0) (nI nf) 4 (nI l)) (h5 : V.2.1 129 5 = nI (ou + pm mk f P) ∧ ou + pm mk f P ≤ (V.2.2.1 129 4).1 ∧ OLN (V.2.2.1 129 4).1) (hCL : CLS U V (pd f 0 P) (fun t => (V.2.2.1 129 4).2 (ou + pj mk f P P t))) (e15 : V.1 15 = U.1 15) (e25 : V.1 25 = U.1 25) (e98 : V.2.2.1 99 8 = U.2.2.1 99 8) (e145 : V.2.2.2.2.1 145 = U.2.2.2.2.1 145) (e21 : V.2.1 129 21 = U.2.1 129 21) (hf : ∀ k, 1 ≤ f k) (hpd : pd f 0 P ≤ 16384) (hl : l < P) (hlv : ∀ j, l < j → j < P → mb tmx j = 0) (hQ : ∀ c x, c < pm mk f P → Q c x → x < pm tmx f P) (hcost : us - sf + pm mk f P * (spn + 1) ≤ 65536) (hfit : ou + pm mk f P ≤ 32768) : RSU V Y es P f od N0 sf (ou + pm mk f P) (fun s t => G s t ∧ Q (pj mk f P P s) (ixz tmx f (dgz f P t) P)) := by
  obtain ⟨⟨⟨q1, q2, q3⟩, q4⟩, hSO, hWD, ⟨b1, b2, b3⟩, ⟨o1, o2, o3, o4⟩, ⟨n1, n2, n3, n4⟩, ⟨cl, c1, c2⟩, al, a1, a2⟩ := h
  obtain ⟨hTp, hTo, N', us', S', z', p', on, hSk, ⟨hN1, hN2⟩, hNS, ⟨hU1, hU2⟩, hcl⟩ := hT
  obtain ⟨r5, r6, r7⟩ := h5
  have hpm := pm_le (mk := mk) (f := f) (n := P) (fun k _ => hf k)
  have hNb : N' ≤ 524288 := hSk.1.2.2.2
  have hrow : V.1 24 = (nf + 1, fun i k => if i = nf ∧ k = 4 then nI l else if i = nf then (if k < 6 then rw_col mk tmx (nI ou) 0 k else 0) else (U.1 24).2 i k) := by
    rw [h24, ← q1]
    exact tk6_eq (by omega)
  have hold : ∀ r c, r < nf → (V.1 24).2 r c = (U.1 24).2 r c := fun r c hr => by
    rw [hrow]
    show (if r = nf ∧ c = 4 then nI l else if r = nf then (if c < 6 then rw_col mk tmx (nI ou) 0 c else 0) else (U.1 24).2 r c) = _
    rw [if_neg (fun y => by omega), if_neg (by omega)]
  have hnew : (V.1 24).2 nf 0 = mk ∧ (V.1 24).2 nf 1 = tmx ∧ (V.1 24).2 nf 2 = nI ou ∧ (V.1 24).2 nf 4 = nI l := by
    rw [hrow]
    refine ⟨?_, ?_, ?_, ?_⟩
    · show (if nf = nf ∧ 0 = 4 then nI l else if nf = nf then (if 0 < 6 then rw_col mk tmx (nI ou) 0 0 else 0) else (U.1 24).2 nf 0) = mk
      rw [if_neg (by omega), if_pos rfl]
      rfl
    · show (if nf = nf ∧ 1 = 4 then nI l else if nf = nf then (if 1 < 6 then rw_col mk tmx (nI ou) 0 1 else 0) else (U.1 24).2 nf 1) = tmx
      rw [if_neg (by omega), if_pos rfl]
      rfl
    · show (if nf = nf ∧ 2 = 4 then nI l else if nf = nf then (if 2 < 6 then rw_col mk tmx (nI ou) 0 2 else 0) else (U.1 24).2 nf 2) = nI ou
      rw [if_neg (by omega), if_pos rfl]
      rfl
    · show (if nf = nf ∧ 4 = 4 then nI l else if nf = nf then (if 4 < 6 then rw_col mk tmx (nI ou) 0 4 else 0) else (U.1 24).2 nf 4) = nI l
      rw [if_pos ⟨rfl, rfl⟩]
  have hidx : ∀ s, s < pd f 0 P → ixz mk f (dgz f P s) P < pm mk f P := fun s _ => ixz_lt (fun k _ => dgz_lt hf)
  refine ⟨N', us', S', z', p', nf + 1, upv nm nf mk, upv tm nf tmx, upv bs nf ou, upv lv nf l, upv oid nf on, nw, wa, wn, wi, wk, ⟨⟨by rw [hrow], by omega, by rcases r7 with y | y | y <;> omega⟩, fun q hq => ?_⟩, hSk, by rw [e15, e25]; exact hWD, ⟨fun r hr => ?_, fun r hr j hj hjP => ?_, by omega⟩, ⟨r5, r6, r7, hfit⟩, ⟨by omega, e21.trans n2, by omega, ?_⟩, ?_, al, by rw [e145]; exact a1, fun s t hs ht => ?_⟩
  · by_cases hqn : q = nf
    · rw [hqn, upv_eq, upv_eq, upv_eq, upv_eq, upv_eq]
      refine ⟨hnew, hl, r6, fun c hc => ?_⟩
      obtain ⟨y1, y2, y3, y4⟩ := hcl c hc
      exact ⟨y1, y2, y3, fun x hx => hQ c x hc ((y4 x).mp hx)⟩
    · have hqs : q < nf := by omega
      obtain ⟨⟨y1, y2, y3, y4⟩, y5, y6, y7⟩ := q4 q hqs
      have hbq := b1 q hqs
      rw [upv_ne hqs, upv_ne hqs, upv_ne hqs, upv_ne hqs, upv_ne hqs, hold q 0 hqs, hold q 1 hqs, hold q 2 hqs, hold q 4 hqs]
      refine ⟨⟨y1, y2, y3, y4⟩, y5, by omega, fun c hc => ?_⟩
      obtain ⟨w1, w2, w3, w4⟩ := y7 c hc
      obtain ⟨v1, v2, v3⟩ := hNS _ w2
      rw [hTo _ (by omega), v1, v3]
      exact ⟨w1, by omega, w3, w4⟩
  · by_cases hrn : r = nf
    · rw [hrn, upv_eq, upv_eq]
      exact Nat.le_refl _
    · have hrs : r < nf := by omega
      rw [upv_ne hrs, upv_ne hrs]
      have := b1 r hrs
      omega
  · by_cases hrn : r = nf
    · rw [hrn, upv_eq] at hj
      rw [hrn, upv_eq]
      exact hlv j hj hjP
    · have hrs : r < nf := by omega
      rw [upv_ne hrs] at hj ⊢
      exact b2 r hrs j hj hjP
  · have hsd : sf / 8192 ≤ us / 8192 := Nat.div_le_div_right n3
    omega
  · obtain ⟨cn, d1, d2⟩ := hCL
    refine ⟨cn, fun t ht => ⟨(d1 t ht).1, Nat.le_of_lt (d1 t ht).2⟩, fun s s' hs hs' hss => ?_⟩
    obtain ⟨w1, w2⟩ := (d2 s s' hs hs').mp hss
    rw [(c1 s hs).1, (c1 s' hs').1] at w1
    have w3 : cl s = cl s' := nI_inj (by have := (c1 s hs).2; omega) (by have := (c1 s' hs').2; omega) w1
    have hsm := SMC.same (V := V) (c2 s s' hs hs' w3) e15 e98 e25
    refine ⟨fun r hr => ?_, hsm.2⟩
    by_cases hrn : r = nf
    · rw [hrn, upv_eq, upv_eq, ixz_pj hs, ixz_pj hs']
      have i1 := hidx s hs
      have i2 := hidx s' hs'
      rw [ixz_pj hs] at i1
      rw [ixz_pj hs'] at i2
      have w4 : nI (on (pj mk f P P s)) = nI (on (pj mk f P P s')) := ((hcl _ i1).1.symm.trans w2).trans (hcl _ i2).1
      have v1 := (hcl _ i1).2.1
      have v2 := (hcl _ i2).2.1
      exact nI_inj (by omega) (by omega) w4
    · have hrs : r < nf := by omega
      rw [upv_ne hrs, upv_ne hrs]
      exact hsm.1 r hrs
  · have i1 := hidx s hs
    rw [ixz_pj hs] at i1
    have hw : ∀ k, (WCHw Y V f P od wa wn wi wk s nw k (dgz f P t k) ↔ WCHw Y U f P od wa wn wi wk s nw k (dgz f P t k)) := fun k => WCHw.same e25 e15 e98
    have hfold : ∀ r, r < nf → (S' (oid r (ixz (nm r) f (dgz f P s) P)) = S (oid r (ixz (nm r) f (dgz f P s) P))) := fun r hr => (hNS _ ((q4 r hr).2.2.2 _ (ixz_lt (fun k _ => dgz_lt hf))).2.1).1
    show (G s t ∧ Q (pj mk f P P s) (ixz tmx f (dgz f P t) P)) ↔ _
    rw [a2 s t hs ht]
    constructor
    · rintro ⟨⟨g1, g2, g3, g4⟩, g5⟩
      refine ⟨g1, fun r hr => ?_, fun k hk => (hw k).mpr (g3 k hk), (WTR_same e15 e98 e25).mpr g4⟩
      by_cases hrn : r = nf
      · rw [hrn, upv_eq, upv_eq, upv_eq, ixz_pj hs]
        exact ((hcl _ i1).2.2.2 _).mpr g5
      · have hrs : r < nf := by omega
        rw [upv_ne hrs, upv_ne hrs, upv_ne hrs, hfold r hrs]
        exact g2 r hrs
    · rintro ⟨g1, g2, g3, g4⟩
      refine ⟨⟨g1, fun r hr => ?_, fun k hk => (hw k).mp (g3 k hk), (WTR_same e15 e98 e25).mp g4⟩, ?_⟩
      · have y := g2 r (by omega)
        rw [upv_ne hr, upv_ne hr, upv_ne hr, hfold r hr] at y
        exact y
      · have y := g2 nf (by omega)
        rw [upv_eq, upv_eq, upv_eq, ixz_pj hs] at y
        exact ((hcl _ i1).2.2.2 _).mp y
end SoFar
