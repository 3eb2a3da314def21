/-! A step of a frame: the next one, and what it asks -/
abbrev mu_F : Type := Nat × mu_L × List mu_V × mu_H
/-- the place of a reference -/
def mu_p (o : Option Nat) : Nat := o.getD 0
/-- a reference to a cell of a kind -/
def mu_is (H : mu_H) (o : Option Nat) (kd : Nat) : Prop := o = some (mu_p o) ∧ mu_p o < mu_z H ∧ mu_k H (mu_p o) = kd
/-- ... or to an outer array: one that may be read -/
def mu_isr (H : mu_H) (o : Option Nat) (kd : Nat) : Prop := o = some (mu_p o) ∧ (mu_p o < mu_z H ∨ (1001000 ≤ mu_p o ∧ mu_p o < 1001000 + ev_kb.length)) ∧ mu_k H (mu_p o) = kd
theorem mu_is.r {H : mu_H} {o : Option Nat} {kd : Nat} (h : mu_is H o kd) : mu_isr H o kd := ⟨h.1, Or.inl h.2.1, h.2.2⟩
/-- a String constant: the text of a number -/
def mu_str (o : Option Nat) : Prop := o = some (mu_p o) ∧ 1000000 ≤ mu_p o ∧ mu_p o < 1000000 + ev_jk
def mu_ld (chk : mu_V → Bool) (i len : Nat) (f : mu_F) : Option (mu_F × List Prop) :=
  match f with
  | (pc, L, S, H) =>
    match mu_look L i with
    | some v => bif chk v then some ((pc + len, L, v :: S, H), []) else none
    | none => none
def mu_isI : mu_V → Bool
  | .inl _ => true
  | _ => false
def mu_isL : mu_V → Bool
  | .inr (.inl _) => true
  | _ => false
def mu_isR : mu_V → Bool
  | .inr (.inr _) => true
  | _ => false
def mu_st (chk : mu_V → Bool) (nL i len : Nat) (f : mu_F) : Option (mu_F × List Prop) :=
  match f with
  | (pc, L, v :: S, H) => bif chk v && Nat.blt i nL then some ((pc + len, (i, v) :: mu_del L i, S, H), []) else none
  | _ => none
def mu_st2 (nL i len : Nat) (f : mu_F) : Option (mu_F × List Prop) :=
  match f with
  | (pc, L, v :: S, H) => bif mu_isL v && Nat.blt (i + 1) nL then some ((pc + len, (i, v) :: mu_del2 L i, S, H), []) else none
  | _ => none
def mu_b2 (g : Int32 → Int32 → Int32) (f : mu_F) : Option (mu_F × List Prop) :=
  match f with
  | (pc, L, .inl y :: .inl x :: S, H) => some ((pc + 1, L, .inl (g x y) :: S, H), [])
  | _ => none
def mu_b1 (g : Int32 → Int32) (f : mu_F) : Option (mu_F × List Prop) :=
  match f with
  | (pc, L, .inl x :: S, H) => some ((pc + 1, L, .inl (g x) :: S, H), [])
  | _ => none
def mu_l2 (g : Int64 → Int64 → Int64) (f : mu_F) : Option (mu_F × List Prop) :=
  match f with
  | (pc, L, .inr (.inl y) :: .inr (.inl x) :: S, H) => some ((pc + 1, L, .inr (.inl (g x y)) :: S, H), [])
  | _ => none
def mu_ls (g : Int64 → Int32 → Int64) (f : mu_F) : Option (mu_F × List Prop) :=
  match f with
  | (pc, L, .inl y :: .inr (.inl x) :: S, H) => some ((pc + 1, L, .inr (.inl (g x y)) :: S, H), [])
  | _ => none
def mu_co (v : mu_V) (len : Nat) (f : mu_F) : Option (mu_F × List Prop) :=
  match f with
  | (pc, L, S, H) => some ((pc + len, L, v :: S, H), [])
/-- a load from an array of type t, whose elements are of the kind tc -/
def mu_al (t tc : Nat) (f : mu_F) : Option (mu_F × List Prop) :=
  match f with
  | (pc, L, .inl i :: .inr (.inr o) :: S, H) => some ((pc + 1, L, mu_f H (mu_p o) i.toNatClampNeg tc :: S, H), [mu_isr H o (100 + t), vp_in i (mu_n H (mu_p o))])
  | _ => none
def mu_x (ins : Instr) (ops : List Nat) (nL : Nat) (f : mu_F) : Option (mu_F × List Prop) :=
  match ins with
  | .iconst i => mu_co (.inl (Int32.ofInt i)) 1 f
  | .bipush i => mu_co (.inl (Int8.ofInt i).toInt32) 2 f
  | .sipush i => mu_co (.inl (Int16.ofInt i).toInt32) 3 f
  | .ldc _ => match ops with
    | [_, v] => mu_co (.inl (Int32.ofNat v)) 2 f
    | [_, _, j] => bif Nat.blt j 1000000 then mu_co (.inr (.inr (some (1000000 + j)))) 2 f else none
    | _ => none
  | .ldc_w _ => match ops with
    | [_, v] => mu_co (.inl (Int32.ofNat v)) 3 f
    | [_, _, j] => bif Nat.blt j 1000000 then mu_co (.inr (.inr (some (1000000 + j)))) 3 f else none
    | _ => none
  | .ldc2_w _ => match ops with
    | [_, v] => mu_co (.inr (.inl (Int64.ofNat v))) 3 f
    | _ => none
  | .lconst k => mu_co (.inr (.inl (Int64.ofNat k.val))) 1 f
  | .aconst_null => mu_co (.inr (.inr none)) 1 f
  | .iload_n k => mu_ld mu_isI k.val 1 f
  | .iload k => mu_ld mu_isI k 2 f
  | .aload_n k => mu_ld mu_isR k.val 1 f
  | .aload k => mu_ld mu_isR k 2 f
  | .lload_n k => mu_ld mu_isL k.val 1 f
  | .lload k => mu_ld mu_isL k 2 f
  | .istore_n k => mu_st mu_isI nL k.val 1 f
  | .istore k => mu_st mu_isI nL k 2 f
  | .astore_n k => mu_st mu_isR nL k.val 1 f
  | .astore k => mu_st mu_isR nL k 2 f
  | .lstore_n k => mu_st2 nL k.val 1 f
  | .lstore k => mu_st2 nL k 2 f
  | .iinc k d => match f with
    | (pc, L, S, H) =>
      match mu_look L k with
      | some (.inl x) => bif Nat.blt k nL then some ((pc + 3, (k, .inl (x + Int32.ofInt d)) :: mu_del L k, S, H), []) else none
      | _ => none
  | .dup => match f with
    | (pc, L, a :: S, H) => bif mu_c1 a then some ((pc + 1, L, a :: a :: S, H), []) else none
    | _ => none
  | .dup_x1 => match f with
    | (pc, L, a :: b :: S, H) => bif mu_c1 a && mu_c1 b then some ((pc + 1, L, a :: b :: a :: S, H), []) else none
    | _ => none
  | .dup2 => match f with
    | (pc, L, a :: b :: S, H) => bif mu_c1 a && mu_c1 b then some ((pc + 1, L, a :: b :: a :: b :: S, H), []) else none
    | _ => none
  | .pop => match f with
    | (pc, L, a :: S, H) => bif mu_c1 a then some ((pc + 1, L, S, H), []) else none
    | _ => none
  | .iadd => mu_b2 (fun x y => x + y) f
  | .isub => mu_b2 (fun x y => x - y) f
  | .imul => mu_b2 (fun x y => x * y) f
  | .iand => mu_b2 (fun x y => x &&& y) f
  | .ior => mu_b2 (fun x y => x ||| y) f
  | .ixor => mu_b2 (fun x y => x ^^^ y) f
  | .ishl => mu_b2 (fun x y => x <<< (y &&& 31)) f
  | .ishr => mu_b2 (fun x y => x >>> (y &&& 31)) f
  | .iushr => mu_b2 (fun x y => (x.toUInt32 >>> (y.toUInt32 &&& Int32.toUInt32 31)).toInt32) f
  | .ineg => mu_b1 (fun x => -x) f
  | .i2b => mu_b1 (fun x => x.toInt8.toInt32) f
  | .i2s => mu_b1 (fun x => x.toInt16.toInt32) f
  | .i2c => mu_b1 (fun x => (x.toUInt32 % 65536).toInt32) f
  | .idiv => match f with
    | (pc, L, .inl y :: .inl x :: S, H) => some ((pc + 1, L, .inl (x / y) :: S, H), [¬ y = 0])
    | _ => none
  | .irem => match f with
    | (pc, L, .inl y :: .inl x :: S, H) => some ((pc + 1, L, .inl (x - x / y * y) :: S, H), [¬ y = 0])
    | _ => none
  | .i2l => match f with
    | (pc, L, .inl x :: S, H) => some ((pc + 1, L, .inr (.inl x.toInt64) :: S, H), [])
    | _ => none
  | .l2i => match f with
    | (pc, L, .inr (.inl x) :: S, H) => some ((pc + 1, L, .inl x.toInt32 :: S, H), [])
    | _ => none
  | .lcmp => match f with
    | (pc, L, .inr (.inl y) :: .inr (.inl x) :: S, H) => some ((pc + 1, L, .inl (lg_cmp x y) :: S, H), [])
    | _ => none
  | .ladd => mu_l2 (fun x y => x + y) f
  | .lsub => mu_l2 (fun x y => x - y) f
  | .lmul => mu_l2 (fun x y => x * y) f
  | .land => mu_l2 (fun x y => x &&& y) f
  | .lor => mu_l2 (fun x y => x ||| y) f
  | .lxor => mu_l2 (fun x y => x ^^^ y) f
  | .ldiv => match f with
    | (pc, L, .inr (.inl y) :: .inr (.inl x) :: S, H) => some ((pc + 1, L, .inr (.inl (x / y)) :: S, H), [¬ y = 0])
    | _ => none
  | .lshl => mu_ls (fun x y => x <<< (y.toInt64 &&& 63)) f
  | .lshr => mu_ls (fun x y => x >>> (y.toInt64 &&& 63)) f
  | .lushr => mu_ls (fun x y => (x.toUInt64 >>> (y.toInt64.toUInt64 &&& Int64.toUInt64 63)).toInt64) f
  | .goto _ => match f, ops with
    | (_, L, S, H), [tgt] => some ((tgt, L, S, H), [])
    | _, _ => none
  | .arraylength => match f with
    | (pc, L, .inr (.inr o) :: S, H) => some ((pc + 1, L, .inl (Int32.ofNat (mu_n H (mu_p o))) :: S, H), [mu_isr H o (mu_k H (mu_p o)), 100 ≤ mu_k H (mu_p o)])
    | _ => none
  | .iaload => mu_al 0 0 f
  | .baload => mu_al 1 0 f
  | .laload => mu_al 2 3 f
  | .aaload => match f with
    | (pc, L, .inl i :: .inr (.inr o) :: S, H) => some ((pc + 1, L, .inr (.inr (mu_r H (mu_p o) i.toNatClampNeg)) :: S, H), [mu_is H o (mu_k H (mu_p o)), 103 ≤ mu_k H (mu_p o) ∧ mu_k H (mu_p o) ≤ 110 ∧ mu_k H (mu_p o) ≠ 108, vp_in i (mu_n H (mu_p o))])
    | _ => none
  | .iastore => match f with
    | (pc, L, .inl v :: .inl i :: .inr (.inr o) :: S, H) => some ((pc + 1, L, S, mu_si H (mu_p o) i.toNatClampNeg v), [mu_is H o 100, vp_in i (mu_n H (mu_p o))])
    | _ => none
  | .bastore => match f with
    | (pc, L, .inl v :: .inl i :: .inr (.inr o) :: S, H) => some ((pc + 1, L, S, mu_si H (mu_p o) i.toNatClampNeg (vp_nar .byte v)), [mu_is H o 101, vp_in i (mu_n H (mu_p o))])
    | _ => none
  | .lastore => match f with
    | (pc, L, .inr (.inl v) :: .inl i :: .inr (.inr o) :: S, H) => some ((pc + 1, L, S, mu_sl H (mu_p o) i.toNatClampNeg v), [mu_is H o 102, vp_in i (mu_n H (mu_p o))])
    | _ => none
  | .aastore => match f with
    | (pc, L, .inr (.inr v) :: .inl i :: .inr (.inr o) :: S, H) => some ((pc + 1, L, S, mu_sr H (mu_p o) i.toNatClampNeg v), [mu_is H o 104, mu_is H v 102, vp_in i (mu_n H (mu_p o))])
    | _ => none
  | .newarray _ => match f, ops with
    | (pc, L, .inl x :: S, H), [_, t] => bif Nat.blt t 3 then some ((pc + 2, L, .inr (.inr (some (mu_z H))) :: S, mu_nw H (100 + t) x.toNatClampNeg x.toNatClampNeg), [¬ x < 0, x.toNatClampNeg * ev_bytes t ≤ 536870912, mu_z H + 1 ≤ 1000000]) else none
    | _, _ => none
  | .getfield _ => match f, ops with
    | (pc, L, .inr (.inr o) :: S, H), [_, _, ci, k] => some ((pc + 3, L, mu_f H (mu_p o) k ((mu_ft ci).getD k 0) :: S, H), [mu_is H o ci])
    | (pc, L, .inr (.inr o) :: S, H), [_, fno] =>
      match fno with
      | 0 => some ((pc + 3, L, .inr (.inr (some (mu_p o + 1000))) :: S, H), [mu_str o])
      | 1 => some ((pc + 3, L, .inl 0 :: S, H), [mu_str o])
      | _ => none
    | _, _ => none
  | .putfield _ => match f, ops with
    | (pc, L, .inl v :: .inr (.inr o) :: S, H), [_, _, ci, k, tc] =>
      match tc with
      | 0 => some ((pc + 3, L, S, mu_si H (mu_p o) k v), [mu_is H o ci])
      | 1 => some ((pc + 3, L, S, mu_si H (mu_p o) k v), [mu_is H o ci, v = 0 ∨ v = 1])
      | _ => none
    | (pc, L, .inr (.inr v) :: .inr (.inr o) :: S, H), [_, _, ci, k, tc] =>
      match tc with
      | 2 => some ((pc + 3, L, S, mu_sr H (mu_p o) k v), [mu_is H o ci])
      | _ => none
    | (pc, L, .inr (.inl v) :: .inr (.inr o) :: S, H), [_, _, ci, k, tc] =>
      match tc with
      | 3 => some ((pc + 3, L, S, mu_sl H (mu_p o) k v), [mu_is H o ci])
      | _ => none
    | _, _ => none
  | .getstatic _ => match f, ops with
    | (pc, L, S, H), [_] => some ((pc + 3, L, .inl 1 :: S, H), [])
    | (pc, L, S, H), [_, _] => some ((pc + 3, L, .inr (.inr (some 3000000)) :: S, H), [])
    | (pc, L, S, H), [_, _, _] => some ((pc + 3, L, .inr (.inr (some 1001079)) :: S, H), [])
    | _, _ => none
  | .anewarray _ => match f, ops with
    | (pc, L, .inl x :: S, H), [_, t, _] => bif Nat.blt 2 t && !Nat.beq t 8 then some ((pc + 3, L, .inr (.inr (some (mu_z H))) :: S, mu_nw H (100 + t) x.toNatClampNeg x.toNatClampNeg), [¬ x < 0, x.toNatClampNeg * ev_bytes t ≤ 536870912, mu_z H + 1 ≤ 1000000]) else none
    | _, _ => none
  | _ => none
def mu_all : List Prop → Prop
  | [] => True
  | [p] => p
  | p :: t => p ∧ mu_all t
theorem mu_all_app : ∀ {a b : List Prop}, mu_all (a ++ b) → mu_all a ∧ mu_all b
  | [], b, h => ⟨trivial, h⟩
  | [p], [], h => ⟨h, trivial⟩
  | [p], q :: b, h => ⟨h.1, h.2⟩
  | p :: q :: a, b, h => by
    have h2 := mu_all_app (a := q :: a) (b := b) h.2
    exact ⟨⟨h.1, h2.1⟩, h2.2⟩
