/-! WHAT A STEP OF THE UPPER LAYER MAY CHANGE -/
def in1 (l : List Nat) (j : Nat) : Bool := l.any (fun t => Nat.beq t j)
def in2 (l : List (Nat × Nat)) (P j : Nat) : Bool := l.any (fun t => Nat.beq t.1 P && Nat.beq t.2 j)
/-- tables; ints; what arrays hold; references and lengths; longs; the pools -/
abbrev Uf := List Nat × List (Nat × Nat) × List (Nat × Nat) × List (Nat × Nat) × List Nat × Bool
def Uf.t (F : Uf) : List Nat := F.1
def Uf.i (F : Uf) : List (Nat × Nat) := F.2.1
def Uf.a (F : Uf) : List (Nat × Nat) := F.2.2.1
def Uf.n (F : Uf) : List (Nat × Nat) := F.2.2.2.1
def Uf.l (F : Uf) : List Nat := F.2.2.2.2.1
def Uf.p (F : Uf) : Bool := F.2.2.2.2.2
def Uf.le (F G : Uf) : Bool := F.t.all (fun j => in1 G.t j) && (F.i.all (fun x => in2 G.i x.1 x.2) && (F.a.all (fun x => in2 G.a x.1 x.2) && (F.n.all (fun x => in2 G.n x.1 x.2) && (F.l.all (fun j => in1 G.l j) && (!F.p || G.p)))))
def uq (F : Uf) (U V : Ud) : Prop :=
  (∀ j, in1 F.t j = false → V.1 j = U.1 j) ∧
  (∀ P j, in2 F.i P j = false → V.2.1 P j = U.2.1 P j) ∧
  (∀ P J, in2 F.a P J = false → V.2.2.1 P J = U.2.2.1 P J) ∧
  (∀ P J, in2 F.n P J = false → (V.2.2.1 P J).1 = (U.2.2.1 P J).1 ∧ V.2.2.2.1 P J = U.2.2.2.1 P J) ∧
  (∀ p, in1 F.l p = false → V.2.2.2.2.1 p = U.2.2.2.2.1 p) ∧
  (F.p = false → V.2.2.2.2.2 = U.2.2.2.2.2)
section Frames
variable {Fr G : Uf} {U V W : Ud} {Pp J j ix b k p : Nat} {v : Int32} {x : Int64} {g : Nat → Int32}
theorem in1_sub {l r : List Nat} (h : l.all (fun j => in1 r j) = true) (hj : in1 r j = false) : in1 l j = false := by
  by_cases e : in1 l j = true
  · obtain ⟨t, ht, hx⟩ := List.any_eq_true.mp e
    have := List.all_eq_true.mp h t ht
    rw [Nat.eq_of_beq_eq_true hx, hj] at this
    cases this
  · exact Bool.eq_false_iff.mpr e
theorem in2_sub {l r : List (Nat × Nat)} (h : l.all (fun x => in2 r x.1 x.2) = true) (hj : in2 r Pp j = false) : in2 l Pp j = false := by
  by_cases e : in2 l Pp j = true
  · obtain ⟨t, ht, hx⟩ := List.any_eq_true.mp e
    have := List.all_eq_true.mp h t ht
    rw [Bool.and_eq_true] at hx
    rw [Nat.eq_of_beq_eq_true hx.1, Nat.eq_of_beq_eq_true hx.2, hj] at this
    cases this
  · exact Bool.eq_false_iff.mpr e
theorem uq.refl (Fr : Uf) (U : Ud) : uq Fr U U := ⟨fun _ _ => rfl, fun _ _ _ => rfl, fun _ _ _ => rfl, fun _ _ _ => ⟨rfl, rfl⟩, fun _ _ => rfl, fun _ => rfl⟩
theorem uq.trans (h : uq Fr U V) (h' : uq Fr V W) : uq Fr U W :=
  ⟨fun j hj => (h'.1 j hj).trans (h.1 j hj), fun Pp j hj => (h'.2.1 Pp j hj).trans (h.2.1 Pp j hj), fun Pp j hj => (h'.2.2.1 Pp j hj).trans (h.2.2.1 Pp j hj), fun Pp j hj => ⟨((h'.2.2.2.1 Pp j hj).1).trans (h.2.2.2.1 Pp j hj).1, ((h'.2.2.2.1 Pp j hj).2).trans (h.2.2.2.1 Pp j hj).2⟩, fun p hp => (h'.2.2.2.2.1 p hp).trans (h.2.2.2.2.1 p hp), fun hp => (h'.2.2.2.2.2 hp).trans (h.2.2.2.2.2 hp)⟩
theorem uq.mono (h : uq Fr U V) (hs : Fr.le G = true) : uq G U V := by
  unfold Uf.le at hs
  rw [Bool.and_eq_true, Bool.and_eq_true, Bool.and_eq_true, Bool.and_eq_true, Bool.and_eq_true] at hs
  obtain ⟨s1, s2, s3, s4, s5, s6⟩ := hs
  refine ⟨fun j hj => h.1 j (in1_sub s1 hj), fun Pp j hj => h.2.1 Pp j (in2_sub s2 hj), fun Pp j hj => h.2.2.1 Pp j (in2_sub s3 hj), fun Pp j hj => h.2.2.2.1 Pp j (in2_sub s4 hj), fun p hp => h.2.2.2.2.1 p (in1_sub s5 hp), fun hp => h.2.2.2.2.2 ?_⟩
  rw [hp, Bool.or_false] at s6
  cases hF : Fr.p
  · rfl
  · rw [hF] at s6; cases s6
theorem uq.tr (h : uq Fr U V) (h' : uq G V W) (hs : G.le Fr = true) : uq Fr U W := h.trans (h'.mono hs)
theorem uq.i (h : uq Fr U V) (Pp j : Nat) (hj : in2 Fr.i Pp j = false) : V.2.1 Pp j = U.2.1 Pp j := h.2.1 Pp j hj
theorem uq.a (h : uq Fr U V) (Pp J : Nat) (hj : in2 Fr.a Pp J = false) : V.2.2.1 Pp J = U.2.2.1 Pp J := h.2.2.1 Pp J hj
theorem uq.n (h : uq Fr U V) (Pp J : Nat) (hj : in2 Fr.n Pp J = false) : (V.2.2.1 Pp J).1 = (U.2.2.1 Pp J).1 := (h.2.2.2.1 Pp J hj).1
theorem uq.r (h : uq Fr U V) (Pp J : Nat) (hj : in2 Fr.n Pp J = false) : V.2.2.2.1 Pp J = U.2.2.2.1 Pp J := (h.2.2.2.1 Pp J hj).2
theorem uq.t (h : uq Fr U V) (j : Nat) (hj : in1 Fr.t j = false) : V.1 j = U.1 j := h.1 j hj
theorem uq.l (h : uq Fr U V) (p : Nat) (hj : in1 Fr.l p = false) : V.2.2.2.2.1 p = U.2.2.2.2.1 p := h.2.2.2.2.1 p hj
theorem in2_ne {l : List (Nat × Nat)} {Q q : Nat} (h : in2 l Pp j = true) (h' : in2 l Q q = false) : ¬ (Q = Pp ∧ q = j) := fun z => by rw [z.1, z.2, h] at h'; cases h'
theorem in1_ne {l : List Nat} {q : Nat} (h : in1 l j = true) (h' : in1 l q = false) : q ≠ j := fun z => by rw [z, h] at h'; cases h'
theorem uq.I (h : uq Fr U V) (hm : in2 Fr.i Pp j = true) : uq Fr U (upI V Pp j v) := h.trans ⟨fun _ _ => rfl, fun _ _ hq => if_neg (in2_ne hm hq), fun _ _ _ => rfl, fun _ _ _ => ⟨rfl, rfl⟩, fun _ _ => rfl, fun _ => rfl⟩
theorem uq.A (h : uq Fr U V) (hm : in2 Fr.a Pp J = true) : uq Fr U (upA V Pp J ix v) := h.trans ⟨fun _ _ => rfl, fun _ _ _ => rfl, fun _ _ hq => if_neg (in2_ne hm hq), fun Q q _ => ⟨by
  show (f2 V.2.2.1 Pp J ((V.2.2.1 Pp J).1, _) Q q).1 = _
  unfold f2
  by_cases e : Q = Pp ∧ q = J
  · rw [if_pos e, e.1, e.2]
  · rw [if_neg e], rfl⟩, fun _ _ => rfl, fun _ => rfl⟩
theorem uq.F (h : uq Fr U V) (hm : in2 Fr.a Pp J = true) : uq Fr U (upF V Pp J b g k) := h.trans ⟨fun _ _ => rfl, fun _ _ _ => rfl, fun _ _ hq => if_neg (in2_ne hm hq), fun Q q _ => ⟨by
  show (f2 V.2.2.1 Pp J ((V.2.2.1 Pp J).1, _) Q q).1 = _
  unfold f2
  by_cases e : Q = Pp ∧ q = J
  · rw [if_pos e, e.1, e.2]
  · rw [if_neg e], rfl⟩, fun _ _ => rfl, fun _ => rfl⟩
theorem uq.N {N z : Nat} (h : uq Fr U V) (hm : in2 Fr.a Pp J = true) (hn : in2 Fr.n Pp J = true) : uq Fr U (upN V Pp J N z) := h.trans ⟨fun _ _ => rfl, fun _ _ _ => rfl, fun _ _ hq => if_neg (in2_ne hm hq), fun Q q hq => ⟨by
  show (f2 V.2.2.1 Pp J _ Q q).1 = _
  unfold f2
  rw [if_neg (in2_ne hn hq)], if_neg (in2_ne hn hq)⟩, fun _ _ => rfl, fun _ => rfl⟩
theorem uq.R {r : Option Nat} (h : uq Fr U V) (hn : in2 Fr.n Pp j = true) : uq Fr U (upR V Pp j r) := h.trans ⟨fun _ _ => rfl, fun _ _ _ => rfl, fun _ _ _ => rfl, fun Q q hq => ⟨rfl, if_neg (in2_ne hn hq)⟩, fun _ _ => rfl, fun _ => rfl⟩
theorem uq.T {s : Ts} (h : uq Fr U V) (hs : ∀ q, in1 Fr.t q = false → s q = V.1 q) : uq Fr U (upT V s) := h.trans ⟨hs, fun _ _ _ => rfl, fun _ _ _ => rfl, fun _ _ _ => ⟨rfl, rfl⟩, fun _ _ => rfl, fun _ => rfl⟩
theorem uq.L (h : uq Fr U V) (hn : in1 Fr.l p = true) : uq Fr U (upL V p k x) := h.trans ⟨fun _ _ => rfl, fun _ _ _ => rfl, fun _ _ _ => rfl, fun _ _ _ => ⟨rfl, rfl⟩, fun q hq => funext fun ix => if_neg (fun z => in1_ne hn hq z.1), fun _ => rfl⟩
theorem uq.P {q : Nat} (h : uq Fr U V) (hp : Fr.p = true) : uq Fr U (upP V p q k x) := h.trans ⟨fun _ _ => rfl, fun _ _ _ => rfl, fun _ _ _ => rfl, fun _ _ _ => ⟨rfl, rfl⟩, fun _ _ => rfl, fun z => by rw [hp] at z; cases z⟩
theorem uq.ax {r y : Int32} {c' : Nat} (h : uq Fr U V) (hn : in1 Fr.t j = true) : uq Fr U (upT V (ax j V.1 r c' y)) := h.T (fun q hq => ax_ne (in1_ne hn hq))
theorem uq.ap {a1 a2 a3 a4 : Int32} (h : uq Fr U V) (hn : in1 Fr.t j = true) : uq Fr U (upT V (ap j V.1 a1 a2 a3 a4)) := h.T (fun q hq => ap_ne (in1_ne hn hq))
theorem uq.ac (h : uq Fr U V) (hn : in1 Fr.t j = true) : uq Fr U (upT V (ac j V.1 k)) := h.T (fun q hq => fu_ne _ _ (in1_ne hn hq))
end Frames
/-! ARRAYS OF THE UPPER LAYER BY THEIR OWNER -/
section ByOwner
variable {H : mu_H} {m P J i k : Nat} {C : Nat → Nat} {V : Ud} {R : Option Nat} {v : Int32}
theorem um.iA (h : um m H) (e : ud m H = V) (hP : uo P = true) (ho : gi_o P J = true) (hR : V.2.2.2.1 P J = R) : mu_is H R 100 := by
  rw [← hR, ← ud_q e hP]; exact h.1.1.o ho
theorem um.nA (h : um m H) (e : ud m H = V) (hP : uo P = true) (ho : gi_o P J = true) (hR : V.2.2.2.1 P J = R) {n : Nat} (hn : (V.2.2.1 P J).1 = n) : mu_n H (mu_p R) = n := by
  rw [← hR, ← ud_q e hP, ud_n e hP ho]; exact hn
theorem um.vA (h : um m H) (e : ud m H = V) (hP : uo P = true) (ho : gi_o P J = true) (hR : V.2.2.2.1 P J = R) {n : Nat} (hn : (V.2.2.1 P J).1 = n) (hi : i < n) (h31 : n < 2147483648) : vp_in (nI i) (mu_n H (mu_p R)) := by
  rw [h.nA e hP ho hR hn]; exact vp_in_nI hi h31
theorem um.gA (_ : um m H) (e : ud m H = V) (hP : uo P = true) (ho : gi_o P J = true) (hR : V.2.2.2.1 P J = R) : mu_i H (mu_p R) i = (V.2.2.1 P J).2 i := by
  rw [← hR, ← ud_q e hP, ud_a e hP ho]
theorem um.sA (h : um m H) (e : ud m H = V) (hP : uo P = true) (ho : gi_o P J = true) (hR : V.2.2.2.1 P J = R) : um m (mu_si H (mu_p R) i v) ∧ ur m C H (mu_si H (mu_p R) i v) ∧ ud m (mu_si H (mu_p R) i v) = upA V P J i v := by
  rw [← hR, ← ud_q e hP, ← e]; exact h.putA hP ho
theorem um.sI (h : um m H) (e : ud m H = V) (hP : uo P = true) : um m (mu_si H P k v) ∧ ur m C H (mu_si H P k v) ∧ ud m (mu_si H P k v) = upI V P k v := by
  rw [← e]; exact h.putI hP
theorem um.fA {b n : Nat} {g : Nat → Int32} (h : um m H) (e : ud m H = V) (hP : uo P = true) (ho : gi_o P J = true) (hR : V.2.2.2.1 P J = R) : um m (rw_fill H (mu_p R) b g n) ∧ ur m C H (rw_fill H (mu_p R) b g n) ∧ ud m (rw_fill H (mu_p R) b g n) = upF V P J b g n := by
  rw [← hR, ← ud_q e hP, ← e]; exact h.fillA hP ho
theorem um.sL {p : Nat} {x : Int64} (h : um m H) (e : ud m H = V) (hp : fl p = true) : um m (mu_sl H p k x) ∧ ur m C H (mu_sl H p k x) ∧ ud m (mu_sl H p k x) = upL V p k x := by
  rw [← e]; exact h.putL hp
/-- a copy is a fill -/
theorem um.cA {P1 J1 sp dp n : Nat} {R1 : Option Nat} (h : um m H) (e : ud m H = V) (hP : uo P = true) (ho : gi_o P J = true) (hR : V.2.2.2.1 P J = R) (hP1 : uo P1 = true) (ho1 : gi_o P1 J1 = true) (hR1 : V.2.2.2.1 P1 J1 = R1) : um m (mu_cpi H (mu_p R) sp (mu_p R1) dp n) ∧ ur m C H (mu_cpi H (mu_p R) sp (mu_p R1) dp n) ∧ ud m (mu_cpi H (mu_p R) sp (mu_p R1) dp n) = upF V P1 J1 dp (fun i => (V.2.2.1 P J).2 (sp + i)) n := by
  have z : mu_cpi H (mu_p R) sp (mu_p R1) dp n = rw_fill H (mu_p R1) dp (fun i => mu_i H (mu_p R) (sp + i)) n := rfl
  rw [z, show (fun i => mu_i H (mu_p R) (sp + i)) = fun i => (V.2.2.1 P J).2 (sp + i) from funext fun i => h.gA e hP ho hR]
  exact h.fA e hP1 ho1 hR1
end ByOwner
/-! NUMBERS -/
section Numbers
variable {a b : Nat} {x y : Int32}
theorem nI_mul : nI a * nI b = nI (a * b) := (Int32.ofNat_mul a b).symm
theorem nI_sub (h : b ≤ a) : nI a - nI b = nI (a - b) := by
  have := nI_add (a - b) b
  rw [Nat.sub_add_cancel h] at this
  rw [← this, Int32.add_sub_cancel]
theorem mu_min_n (ha : a < 2147483648) (hb : b < 2147483648) : mu_min (nI a) (nI b) = nI (min a b) := by
  unfold mu_min
  by_cases h : b < a
  · rw [if_pos (nI_lt h ha), Nat.min_eq_right (Nat.le_of_lt h)]
  · rw [if_neg (fun z => h ((nI_ltI hb ha).mp z)), Nat.min_eq_left (Nat.le_of_not_lt h)]
theorem mu_max_n (ha : a < 2147483648) (hb : b < 2147483648) : mu_max (nI a) (nI b) = nI (max a b) := by
  unfold mu_max
  by_cases h : a < b
  · rw [if_pos (nI_lt h hb), Nat.max_eq_right (Nat.le_of_lt h)]
  · rw [if_neg (fun z => h ((nI_ltI ha hb).mp z)), Nat.max_eq_left (Nat.le_of_not_lt h)]
theorem nI_div (ha : a < 2147483648) (hb : b < 2147483648) : nI a / nI b = nI (a / b) := by
  refine Int32.toInt_inj.mp ?_
  have hd : a / b < 2147483648 := Nat.lt_of_le_of_lt (Nat.div_le_self a b) ha
  have e : ((a : Int).tdiv (b : Int)) = ((a / b : Nat) : Int) := (Int.ofNat_tdiv a b).symm
  rw [Int32.toInt_div, nI_toInt ha, nI_toInt hb, nI_toInt hd, e, Int.bmod_eq_of_le]
  · show -(((2 ^ 32 : Nat) : Int) / 2 : Int) ≤ ((a / b : Nat) : Int)
    have : (0 : Int) ≤ ((a / b : Nat) : Int) := Int.natCast_nonneg _
    have h2 : (((2 ^ 32 : Nat) : Int) / 2 : Int) = 2147483648 := by decide
    omega
  · show ((a / b : Nat) : Int) < (((2 ^ 32 : Nat) : Int) + 1) / 2
    have h2 : ((((2 ^ 32 : Nat) : Int) + 1) / 2 : Int) = 2147483648 := by decide
    omega
theorem nI_mod (ha : a < 2147483648) (hb : b < 2147483648) : nI a - nI a / nI b * nI b = nI (a % b) := by
  rw [nI_div ha hb, nI_mul, nI_sub (Nat.div_mul_le_self a b)]
  have h1 := Nat.div_add_mod a b
  rw [Nat.mul_comm] at h1
  exact congrArg nI (by omega)
theorem nI_shr {c : Nat} {s : Int32} (h : a < 2147483648) (hs : s.toBitVec.smod 32 = BitVec.ofNat 32 c) (hc : c < 32) : nI a >>> s = nI (a / 2 ^ c) := by
  refine Int32.toInt_inj.mp ?_
  have hd : a / 2 ^ c < 2147483648 := Nat.lt_of_le_of_lt (Nat.div_le_self _ _) h
  rw [nI_toInt hd]
  show ((nI a >>> s).toBitVec).toInt = _
  rw [Int32.toBitVec_shiftRight, hs, BitVec.sshiftRight_eq', BitVec.toInt_sshiftRight]
  have e1 : (nI a).toBitVec.toInt = (a : Int) := nI_toInt h
  rw [e1, BitVec.toNat_ofNat, Nat.mod_eq_of_lt (by omega), Int.shiftRight_eq_div_pow]
  rfl
theorem nI_shr6 (h : a < 2147483648) : nI a >>> ((6 : Int32) &&& 31) = nI (a / 64) := nI_shr (c := 6) h (by decide) (by decide)
theorem nI_shr1 (h : a < 2147483648) : nI a >>> ((1 : Int32) &&& 31) = nI (a / 2) := nI_shr (c := 1) h (by decide) (by decide)
theorem nI_shr2 (h : a < 2147483648) : nI a >>> ((2 : Int32) &&& 31) = nI (a / 4) := nI_shr (c := 2) h (by decide) (by decide)
end Numbers
/-! LONGS IN ROWS -/
def upM (U : Ud) (p b : Nat) (g : Nat → Int64) (k : Nat) : Ud := (U.1, U.2.1, U.2.2.1, U.2.2.2.1, (fun q i => if q = p ∧ b ≤ i ∧ i < b + k then g (i - b) else U.2.2.2.2.1 q i), U.2.2.2.2.2)
section LongRows
variable {H : mu_H} {m p b k : Nat} {C : Nat → Nat} {U V : Ud} {g : Nat → Int64} {F : Uf}
theorem upM_zero : upM V p b g 0 = V := by
  unfold upM
  rw [show (fun q i => if q = p ∧ b ≤ i ∧ i < b + 0 then g (i - b) else V.2.2.2.2.1 q i) = V.2.2.2.2.1 from funext fun q => funext fun i => if_neg (fun z => by omega)]
theorem upM_succ : upL (upM V p b g k) p (b + k) (g k) = upM V p b g (k + 1) := by
  have e : f2 (fun q i => if q = p ∧ b ≤ i ∧ i < b + k then g (i - b) else V.2.2.2.2.1 q i) p (b + k) (g k) = (fun q i => if q = p ∧ b ≤ i ∧ i < b + (k + 1) then g (i - b) else V.2.2.2.2.1 q i) := by
    funext q i
    unfold f2
    by_cases h1 : q = p ∧ i = b + k
    · rw [if_pos h1, if_pos ⟨h1.1, by omega, by omega⟩, h1.2, Nat.add_sub_cancel_left]
    · rw [if_neg h1]
      show (if q = p ∧ b ≤ i ∧ i < b + k then g (i - b) else V.2.2.2.2.1 q i) = _
      by_cases h2 : q = p ∧ b ≤ i ∧ i < b + k
      · rw [if_pos h2, if_pos ⟨h2.1, h2.2.1, by omega⟩]
      · rw [if_neg h2, if_neg (fun z => by have : ¬ i = b + k := fun y => h1 ⟨z.1, y⟩; exact h2 ⟨z.1, z.2.1, by omega⟩)]
  exact congrArg (fun z => (V.1, V.2.1, V.2.2.1, V.2.2.2.1, z, V.2.2.2.2.2)) e
theorem um.fL (h : um m H) (e : ud m H = V) (hp : fl p = true) : um m (ml_fill H p b g k) ∧ ur m C H (ml_fill H p b g k) ∧ ud m (ml_fill H p b g k) = upM V p b g k := by
  induction k with
  | zero => rw [ml_fill_zero, upM_zero]; exact ⟨h, ur.refl m C H, e⟩
  | succ k ih =>
    obtain ⟨u, r, d⟩ := ih
    obtain ⟨u', r', d'⟩ := u.sL (C := C) (k := b + k) (x := g k) d hp
    rw [← ml_fill_succ, ← upM_succ]
    exact ⟨u', r.trans r', d'⟩
theorem uq.M (h : uq F U V) (hn : in1 F.l p = true) : uq F U (upM V p b g k) := h.trans ⟨fun _ _ => rfl, fun _ _ _ => rfl, fun _ _ _ => rfl, fun _ _ _ => ⟨rfl, rfl⟩, fun q hq => funext fun i => if_neg (fun z => in1_ne hn hq z.1), fun _ => rfl⟩
theorem um.cL {p0 sp : Nat} (h : um m H) (e : ud m H = V) (hp0 : fl p0 = true) (hp : fl p = true) : um m (mu_cpl H p0 sp p b k) ∧ ur m C H (mu_cpl H p0 sp p b k) ∧ ud m (mu_cpl H p0 sp p b k) = upM V p b (fun i => V.2.2.2.2.1 p0 (sp + i)) k := by
  have z : mu_cpl H p0 sp p b k = ml_fill H p b (fun i => mu_l H p0 (sp + i)) k := rfl
  rw [z, show (fun i => mu_l H p0 (sp + i)) = fun i => V.2.2.2.2.1 p0 (sp + i) from funext fun i => ud_l e hp0]
  exact h.fL e hp
theorem um.size {j r : Nat} (h : um m H) (e : ud m H = V) (hj : j < 28) (hr : r = ra m j) : mu_i H r 2 = nI (V.1 j).1 := by
  have z := (h.1.1.w ((ra_ok h.2).1 j hj)).2.2.2.1
  rw [← ak_n (m := m) (j := j) hj] at z
  rw [hr, ← e]
  exact z
theorem mw_copyL {run : Nat → List ev_V → List ev_C → Option ev_R} {M : ev_M} {pc idx a : Nat} {L : mu_L} {S : List mu_V} {n dp sp : Int32} {o0 o1 : Option Nat} {Φ : mu_R → Prop} (hf : ev_find M.2.2.2 pc = some (.invokestatic idx, [a])) (h0 : mu_is H o0 102) (h1 : mu_is H o1 102) (hsp : ¬ sp < 0) (hdp : ¬ dp < 0) (hn : ¬ n < 0) (hl0 : sp.toNatClampNeg + n.toNatClampNeg ≤ mu_n H (mu_p o0)) (hl1 : dp.toNatClampNeg + n.toNatClampNeg ≤ mu_n H (mu_p o1)) (hS : mu_wds S ≤ 8)
    (h : mu_W run M (pc + 3, L, S, mu_cpl H (mu_p o0) sp.toNatClampNeg (mu_p o1) dp.toNatClampNeg n.toNatClampNeg) Φ) : mu_W run M (pc, L, .inl n :: .inl dp :: .inr (.inr o1) :: .inl sp :: .inr (.inr o0) :: S, H) Φ := fun L0 hs => mu_copyL hf h0 h1 hsp hdp hn hl0 hl1 hS (h L0 hs)
end LongRows
