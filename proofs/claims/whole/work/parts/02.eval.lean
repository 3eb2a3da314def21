/-! AN EVALUATOR of bytecode over known worlds: values that are known, or bounded; cells by their places in a list. What it answers holds of the machine (the parts behind this one). -/
/-- a value: known ('.ref k': the cell at place k of the world; '.retAddr j': the outer object j), or 'a reference or null', or an int between two bounds -/
abbrev ev_V : Type := Value ⊕ Option (Int × Int)
/-- a cell: an object (its class's number, its fields), or an array (its type's number, its length, what it holds where nothing was written, what was written) -/
abbrev ev_C : Type := (Nat × List ev_V) ⊕ (Nat × Nat × ev_V × List (Nat × ev_V))
/-- a frame: where, locals, operand stack, world, cells and slots made -/
abbrev ev_F : Type := Nat × List (Nat × ev_V) × List ev_V × List ev_C × Nat × Nat
/-- an instruction: where, what, its operands resolved -/
abbrev ev_I : Type := Nat × Instr × List Nat
/-- a method's end: what it returned, or the class of what it threw; the world; cells and slots made -/
abbrev ev_R : Type := (Option ev_V ⊕ Nat) × List ev_C × Nat × Nat
def ev_look {α : Type} : List (Nat × α) → Nat → Option α
  | [], _ => none
  | (i, v) :: t, k => bif Nat.beq i k then some v else ev_look t k
def ev_int : ev_V → Option Int32
  | .inl (.int x) => some x
  | _ => none
def ev_isI : ev_V → Bool
  | .inl (.int _) => true
  | .inr (some _) => true
  | _ => false
def ev_isR : ev_V → Bool
  | .inl (.ref _) => true
  | .inl (.retAddr _) => true
  | .inl .null => true
  | .inr none => true
  | _ => false
def ev_c1 : ev_V → Bool
  | .inl (.long _) => false
  | .inl (.double _) => false
  | _ => true
/-- is it a long -/
def ev_isL : ev_V → Bool
  | .inl (.long _) => true
  | _ => false
/-- how many words values take -/
def ev_wds : List ev_V → Nat
  | [] => 0
  | v :: t => (bif ev_c1 v then 1 else 2) + ev_wds t
/-- locals without that at k, and without a value of two words that reaches into it -/
def ev_del : List (Nat × ev_V) → Nat → List (Nat × ev_V)
  | [], _ => []
  | (i, v) :: t, k => bif Nat.beq i k || (Nat.beq (i + 1) k && !ev_c1 v) then ev_del t k else (i, v) :: ev_del t k
/-- the same for a value of two words -/
def ev_del2 : List (Nat × ev_V) → Nat → List (Nat × ev_V)
  | [], _ => []
  | (i, v) :: t, k => bif Nat.beq i k || (Nat.beq i (k + 1) || (Nat.beq (i + 1) k && !ev_c1 v)) then ev_del2 t k else (i, v) :: ev_del2 t k
def ev_top : ev_V := .inr (some (-2147483648, 2147483647))
def ev_op2 (f : Int32 → Int32 → Int32) (a b : ev_V) : Option ev_V :=
  match ev_int a, ev_int b with
  | some x, some y => some (.inl (.int (f x y)))
  | _, _ => bif ev_isI a && ev_isI b then some ev_top else none
def ev_op1 (f : Int32 → Int32) (a : ev_V) : Option ev_V :=
  match ev_int a with
  | some x => some (.inl (.int (f x)))
  | none => bif ev_isI a then some ev_top else none
def ev_bnd : ev_V → Option (Int × Int)
  | .inl (.int x) => some (x.toInt, x.toInt)
  | .inr (some b) => some b
  | _ => none
def ev_lt (a b : ev_V) : Option Bool :=
  match ev_bnd a, ev_bnd b with
  | some (al, ah), some (bl, bh) => bif decide (ah < bl) then some true else bif decide (bh ≤ al) then some false else none
  | _, _ => none
def ev_eq (a b : ev_V) : Option Bool :=
  match ev_bnd a, ev_bnd b with
  | some (al, ah), some (bl, bh) => bif decide (ah < bl) then some false else bif decide (bh < al) then some false else bif decide (al = ah) && decide (bl = bh) && decide (al = bl) then some true else none
  | _, _ => none
def ev_not : Option Bool → Option Bool
  | some true => some false
  | some false => some true
  | none => none
def ev_cond (k : ClassFile.Cond) (a b : ev_V) : Option Bool :=
  match k with
  | .eq => ev_eq a b
  | .ne => ev_not (ev_eq a b)
  | .lt => ev_lt a b
  | .ge => ev_not (ev_lt a b)
  | .gt => ev_lt b a
  | .le => ev_not (ev_lt b a)
def ev_zero : ev_V := .inl (.int 0)
def ev_at (d : ev_V) (wr : List (Nat × ev_V)) (i : Nat) : ev_V := (ev_look wr i).getD d
/-- an index that is known and in range -/
def ev_ix (n : Nat) (x : ev_V) : Option Nat :=
  match ev_int x with
  | some i => bif decide (i < 0) then none else bif Nat.ble n i.toNatClampNeg then none else some i.toNatClampNeg
  | none => none
/-- going on behind a step -/
def ev_go (t : Option Bool) (tgt next : Nat) : Option Nat :=
  match t with
  | some true => some tgt
  | some false => some next
  | none => none
/-- is it 0 or 1, and known -/
def ev_bit : ev_V → Bool
  | .inl (.int x) => decide (x = 0) || decide (x = 1)
  | _ => false
/-- may it be put into a field of this kind: 0 an int, 1 a boolean, 2 a reference -/
def ev_fit (tc : Nat) (v : ev_V) : Bool :=
  match tc with
  | 0 => ev_isI v
  | 1 => ev_bit v
  | 2 => ev_isR v
  | 3 => ev_isL v
  | _ => false
def ev_byte (v : ev_V) : ev_V :=
  match ev_int v with
  | some x => .inl (.int (vp_nar .byte x))
  | none => ev_top
/-- what an array of a type holds at first: 0 int, 1 byte, 2 long, else references -/
def ev_dflt : Nat → ev_V
  | 0 => ev_zero
  | 1 => ev_zero
  | 2 => .inl (.long 0)
  | 8 => ev_zero
  | _ => .inl .null
def ev_bytes : Nat → Nat
  | 0 => 4
  | 1 => 1
  | 2 => 8
  | 8 => 1
  | _ => 4
/-- a new array -/
def ev_newarr (t len : Nat) (f : ev_F) : Option ev_F :=
  match f with
  | (pc, L, x :: S, w, c, n) =>
    match ev_int x with
    | some i => bif decide (i < 0) then none else bif Nat.ble (i.toNatClampNeg * ev_bytes t) 536870912 then some (pc + len, L, .inl (.ref w.length) :: S, w ++ [.inr (t, i.toNatClampNeg, ev_dflt t, [])], c + 1, n + i.toNatClampNeg) else none
    | none => none
  | _ => none
def ev_load (chk : ev_V → Bool) (i len : Nat) (f : ev_F) : Option ev_F :=
  match f with
  | (pc, L, S, w, c, n) =>
    match ev_look L i with
    | some v => bif chk v then some (pc + len, L, v :: S, w, c, n) else none
    | none => none
def ev_store (chk : ev_V → Bool) (nL i len : Nat) (f : ev_F) : Option ev_F :=
  match f with
  | (pc, L, v :: S, w, c, n) => bif chk v && Nat.blt i nL then some (pc + len, (i, v) :: ev_del L i, S, w, c, n) else none
  | _ => none
def ev_storeL (nL i len : Nat) (f : ev_F) : Option ev_F :=
  match f with
  | (pc, L, v :: S, w, c, n) => bif ev_isL v && Nat.blt (i + 1) nL then some (pc + len, (i, v) :: ev_del2 L i, S, w, c, n) else none
  | _ => none
def ev_binL (g : Int64 → Int64 → Int64) (f : ev_F) : Option ev_F :=
  match f with
  | (pc, L, .inl (.long y) :: .inl (.long x) :: S, w, c, n) => some (pc + 1, L, .inl (.long (g x y)) :: S, w, c, n)
  | _ => none
def ev_shL (g : Int64 → Int32 → Int64) (f : ev_F) : Option ev_F :=
  match f with
  | (pc, L, .inl (.int y) :: .inl (.long x) :: S, w, c, n) => some (pc + 1, L, .inl (.long (g x y)) :: S, w, c, n)
  | _ => none
def ev_bin (g : Int32 → Int32 → Int32) (f : ev_F) : Option ev_F :=
  match f with
  | (pc, L, b :: a :: S, w, c, n) =>
    match ev_op2 g a b with
    | some r => some (pc + 1, L, r :: S, w, c, n)
    | none => none
  | _ => none
def ev_un (g : Int32 → Int32) (f : ev_F) : Option ev_F :=
  match f with
  | (pc, L, a :: S, w, c, n) =>
    match ev_op1 g a with
    | some r => some (pc + 1, L, r :: S, w, c, n)
    | none => none
  | _ => none
def ev_jump (k : ClassFile.Cond) (two : Bool) (ops : List Nat) (f : ev_F) : Option ev_F :=
  match ops with
  | [tgt] =>
    match two, f with
    | true, (pc, L, b :: a :: S, w, c, n) =>
      match ev_go (ev_cond k a b) tgt (pc + 3) with
      | some q => some (q, L, S, w, c, n)
      | none => none
    | false, (pc, L, a :: S, w, c, n) =>
      match ev_go (ev_cond k a ev_zero) tgt (pc + 3) with
      | some q => some (q, L, S, w, c, n)
      | none => none
    | _, _ => none
  | _ => none
/-- is it null: known -/
def ev_null : ev_V → Option Bool
  | .inl .null => some true
  | .inl (.ref _) => some false
  | .inl (.retAddr _) => some false
  | _ => none
def ev_jnull (want : Bool) (ops : List Nat) (f : ev_F) : Option ev_F :=
  match ops, f with
  | [tgt], (pc, L, a :: S, w, c, n) =>
    match ev_null a with
    | some b => some (bif b == want then tgt else pc + 3, L, S, w, c, n)
    | none => none
  | _, _ => none
def ev_getf (jk : Nat) (ops : List Nat) (f : ev_F) : Option ev_F :=
  match f with
  | (pc, L, o :: S, w, c, n) =>
    match ops, o with
    | [_, _, ci, k], .inl (.ref q) =>
      match w[q]? with
      | some (.inl (cj, fs)) =>
        bif Nat.beq ci cj then
          match fs[k]? with
          | some v => some (pc + 3, L, v :: S, w, c, n)
          | none => none
        else none
      | _ => none
    | [_, fno], .inl (.retAddr j) =>
      bif Nat.blt j jk then
        bif Nat.beq fno 0 then some (pc + 3, L, .inl (.retAddr (1000 + j)) :: S, w, c, n)
        else bif Nat.beq fno 1 then some (pc + 3, L, ev_zero :: S, w, c, n) else none
      else none
    | _, _ => none
  | _ => none
def ev_putf (ops : List Nat) (f : ev_F) : Option ev_F :=
  match f, ops with
  | (pc, L, v :: .inl (.ref q) :: S, w, c, n), [_, _, ci, k, tc] =>
    match w[q]? with
    | some (.inl (cj, fs)) => bif Nat.beq ci cj && ev_fit tc v && Nat.blt k fs.length then some (pc + 3, L, S, w.set q (.inl (cj, fs.set k v)), c, n) else none
    | _ => none
  | _, _ => none
/-- the type of an outer array: the last is of ints, the others of bytes -/
def ev_oty (kb : List (List Int32)) (j : Nat) : Nat := bif Nat.beq (j - 1000 + 1) kb.length then 0 else 1
def ev_alen (kb : List (List Int32)) (sc : List ev_V) (f : ev_F) : Option ev_F :=
  match f with
  | (pc, L, .inl (.ref q) :: S, w, c, n) =>
    match w[q]? with
    | some (.inr (_, N, _, _)) => some (pc + 1, L, .inl (.int (Int32.ofNat N)) :: S, w, c, n)
    | _ => none
  | (pc, L, .inl (.retAddr j) :: S, w, c, n) =>
    bif Nat.ble 1000 j && Nat.blt (j - 1000) kb.length then some (pc + 1, L, .inl (.int (Int32.ofNat (kb.getD (j - 1000) []).length)) :: S, w, c, n)
    else bif Nat.beq j 2000 && Nat.blt 0 sc.length then some (pc + 1, L, .inl (.int (Int32.ofNat sc.length)) :: S, w, c, n) else none
  | _ => none
/-- a load from an array of type t -/
def ev_ald (t : Nat) (kb : List (List Int32)) (sc : List ev_V) (f : ev_F) : Option ev_F :=
  match f with
  | (pc, L, x :: .inl (.ref q) :: S, w, c, n) =>
    match w[q]? with
    | some (.inr (u, N, d, wr)) =>
      bif Nat.beq t u then
        match ev_ix N x with
        | some i => some (pc + 1, L, ev_at d wr i :: S, w, c, n)
        | none => none
      else none
    | _ => none
  | (pc, L, x :: .inl (.retAddr j) :: S, w, c, n) =>
    bif Nat.ble 1000 j && Nat.blt (j - 1000) kb.length && Nat.beq t (ev_oty kb j) then
      match ev_ix (kb.getD (j - 1000) []).length x with
      | some i => some (pc + 1, L, .inl (.int ((kb.getD (j - 1000) []).getD i 0)) :: S, w, c, n)
      | none => none
    else bif Nat.beq j 2000 && Nat.beq t 0 then
      match ev_ix sc.length x with
      | some i =>
        match sc[i]? with
        | some v => bif ev_isI v then some (pc + 1, L, v :: S, w, c, n) else none
        | none => none
      | none => none
    else none
  | _ => none
/-- what a store into an array of type t leaves there -/
def ev_put (t : Nat) (v : ev_V) : Option ev_V :=
  match t with
  | 0 => bif ev_isI v then some v else none
  | 1 => bif ev_isI v then some (ev_byte v) else none
  | 2 => match v with
    | .inl (.long x) => some (.inl (.long x))
    | _ => none
  | 3 => match v with
    | .inl (.retAddr j) => bif Nat.blt j 79 then some (.inl (.retAddr j)) else none
    | _ => none
  | _ => none
def ev_ast (t : Nat) (f : ev_F) : Option ev_F :=
  match f with
  | (pc, L, v :: x :: .inl (.ref q) :: S, w, c, n) =>
    match w[q]? with
    | some (.inr (u, N, d, wr)) =>
      bif Nat.beq t u then
        match ev_ix N x, ev_put t v with
        | some i, some r => some (pc + 1, L, S, w.set q (.inr (u, N, d, (i, r) :: wr)), c, n)
        | _, _ => none
      else none
    | _ => none
  | _ => none
/-- a load from an array of references, of type t -/
def ev_aald (f : ev_F) : Option ev_F :=
  match f with
  | (pc, L, x :: .inl (.ref q) :: S, w, c, n) =>
    match w[q]? with
    | some (.inr (u, N, d, wr)) =>
      bif Nat.ble 3 u && Nat.ble u 10 && !Nat.beq u 8 then
        match ev_ix N x with
        | some i => bif ev_isR (ev_at d wr i) then some (pc + 1, L, ev_at d wr i :: S, w, c, n) else none
        | none => none
      else none
    | _ => none
  | _ => none
/-- may a reference stand in an array of type t: a cell of the world of the type's class (number ct), an array of the world of type ta -/
def ev_may (ct ta : Nat) (w : List ev_C) (v : ev_V) : Bool :=
  match v with
  | .inl (.ref q) =>
    match w[q]? with
    | some (.inl (cj, _)) => Nat.beq ct (cj + 1)
    | some (.inr (u, _, _, _)) => Nat.beq ta (u + 1)
    | none => false
  | _ => false
/-- by the type's number: its class and its array type, each and one (0: none) -/
def ev_tcl : Nat → Nat × Nat
  | 4 => (0, 3)
  | 5 => (0, 9)
  | 6 => (18, 0)
  | 7 => (15, 0)
  | 9 => (19, 0)
  | 10 => (16, 0)
  | _ => (0, 0)
def ev_aast (f : ev_F) : Option ev_F :=
  match f with
  | (pc, L, v :: x :: .inl (.ref q) :: S, w, c, n) =>
    match w[q]? with
    | some (.inr (u, N, d, wr)) =>
      bif Nat.ble 4 u && Nat.ble u 10 && ev_may (ev_tcl u).1 (ev_tcl u).2 w v then
        match ev_ix N x with
        | some i => some (pc + 1, L, S, w.set q (.inr (u, N, d, (i, v) :: wr)), c, n)
        | none => none
      else ev_ast 3 f
    | _ => none
  | _ => none
/-- where a lookupswitch goes -/
def ev_lk (x : Int) : List Int → List Nat → Nat → Nat
  | k :: ks, t :: ts, d => bif decide (k = x) then t else ev_lk x ks ts d
  | _, _, d => d
/-- every instruction that is no call, no end -/
def ev_step (fds : List (List ev_V)) (jk : Nat) (kb : List (List Int32)) (sc : List ev_V) (nL : Nat) (ins : Instr) (ops : List Nat) (f : ev_F) : Option ev_F :=
  match ins with
  | .iconst i => match f with
    | (pc, L, S, w, c, n) => some (pc + 1, L, .inl (.int (Int32.ofInt i)) :: S, w, c, n)
  | .bipush i => match f with
    | (pc, L, S, w, c, n) => some (pc + 2, L, .inl (.int (Int8.ofInt i).toInt32) :: S, w, c, n)
  | .sipush i => match f with
    | (pc, L, S, w, c, n) => some (pc + 3, L, .inl (.int (Int16.ofInt i).toInt32) :: S, w, c, n)
  | .ldc _ => match f, ops with
    | (pc, L, S, w, c, n), [_, v] => some (pc + 2, L, .inl (.int (Int32.ofNat v)) :: S, w, c, n)
    | (pc, L, S, w, c, n), [_, _, j] => some (pc + 2, L, .inl (.retAddr j) :: S, w, c, n)
    | _, _ => none
  | .aconst_null => match f with
    | (pc, L, S, w, c, n) => some (pc + 1, L, .inl .null :: S, w, c, n)
  | .iload_n k => ev_load ev_isI k.val 1 f
  | .iload k => ev_load ev_isI k 2 f
  | .aload_n k => ev_load ev_isR k.val 1 f
  | .aload k => ev_load ev_isR k 2 f
  | .istore_n k => ev_store ev_isI nL k.val 1 f
  | .istore k => ev_store ev_isI nL k 2 f
  | .astore_n k => ev_store ev_isR nL k.val 1 f
  | .astore k => ev_store ev_isR nL k 2 f
  | .iinc k d => match f with
    | (pc, L, S, w, c, n) =>
      match ev_look L k with
      | some v =>
        match ev_op1 (fun x => x + Int32.ofInt d) v with
        | some r => bif Nat.blt k nL then some (pc + 3, (k, r) :: ev_del L k, S, w, c, n) else none
        | none => none
      | none => none
  | .dup => match f with
    | (pc, L, a :: S, w, c, n) => bif ev_c1 a then some (pc + 1, L, a :: a :: S, w, c, n) else none
    | _ => none
  | .dup_x1 => match f with
    | (pc, L, a :: b :: S, w, c, n) => bif ev_c1 a && ev_c1 b then some (pc + 1, L, a :: b :: a :: S, w, c, n) else none
    | _ => none
  | .pop => match f with
    | (pc, L, a :: S, w, c, n) => bif ev_c1 a then some (pc + 1, L, S, w, c, n) else none
    | _ => none
  | .iadd => ev_bin (fun x y => x + y) f
  | .isub => ev_bin (fun x y => x - y) f
  | .imul => ev_bin (fun x y => x * y) f
  | .iand => ev_bin (fun x y => x &&& y) f
  | .ixor => ev_bin (fun x y => x ^^^ y) f
  | .ishr => ev_bin (fun x y => x >>> (y &&& 31)) f
  | .iushr => ev_bin (fun x y => (x.toUInt32 >>> (y.toUInt32 &&& Int32.toUInt32 31)).toInt32) f
  | .irem => match f with
    | (pc, L, .inl (.int y) :: .inl (.int x) :: S, w, c, n) => bif decide (y = 0) then none else some (pc + 1, L, .inl (.int (x - x / y * y)) :: S, w, c, n)
    | _ => none
  | .i2b => ev_un (fun x => x.toInt8.toInt32) f
  | .i2c => ev_un (fun x => (x.toUInt32 % 65536).toInt32) f
  | .i2l => match f with
    | (pc, L, .inl (.int x) :: S, w, c, n) => some (pc + 1, L, .inl (.long x.toInt64) :: S, w, c, n)
    | _ => none
  | .lcmp => match f with
    | (pc, L, .inl (.long y) :: .inl (.long x) :: S, w, c, n) => some (pc + 1, L, .inl (.int (lg_cmp x y)) :: S, w, c, n)
    | _ => none
  | .goto _ => match f, ops with
    | (_, L, S, w, c, n), [tgt] => some (tgt, L, S, w, c, n)
    | _, _ => none
  | .if_icmp k _ => ev_jump k true ops f
  | .ifCond k _ => ev_jump k false ops f
  | .ifnull _ => ev_jnull true ops f
  | .ifnonnull _ => ev_jnull false ops f
  | .tableswitch _ lo hi _ => match f, ops with
    | (_, L, .inl (.int x) :: S, w, c, n), d :: ts =>
      bif decide (x.toInt < lo) then some (d, L, S, w, c, n)
      else bif decide (hi < x.toInt) then some (d, L, S, w, c, n)
      else match ts[(x.toInt - lo).toNat]? with
        | some t => some (t, L, S, w, c, n)
        | none => none
    | _, _ => none
  | .arraylength => ev_alen kb sc f
  | .iaload => ev_ald 0 kb sc f
  | .baload => ev_ald 1 kb sc f
  | .laload => ev_ald 2 kb sc f
  | .iastore => ev_ast 0 f
  | .bastore => ev_ast 1 f
  | .lastore => ev_ast 2 f
  | .aastore => ev_aast f
  | .newarray _ => match ops with
    | [_, t] => bif Nat.blt t 3 || Nat.beq t 8 then ev_newarr t 2 f else none
    | _ => none
  | .anewarray _ => match ops with
    | [_, t, _] => bif Nat.blt 2 t && !Nat.beq t 8 then ev_newarr t 3 f else none
    | _ => none
  | .new _ => match f, ops with
    | (pc, L, S, w, c, n), [_, _, _, ci] =>
      match fds[ci]? with
      | some fs => some (pc + 3, L, .inl (.ref w.length) :: S, w ++ [.inl (ci, fs)], c + 1, n + fs.length)
      | none => none
    | _, _ => none
  | .getfield _ => ev_getf jk ops f
  | .putfield _ => ev_putf ops f
  | .getstatic _ => match f, ops with
    | (pc, L, S, w, c, n), [_] => some (pc + 3, L, .inl (.int 1) :: S, w, c, n)
    | (pc, L, S, w, c, n), [_, _] => some (pc + 3, L, .inr none :: S, w, c, n)
    | (pc, L, S, w, c, n), [_, _, _] => some (pc + 3, L, .inl (.retAddr (1000 + jk)) :: S, w, c, n)
    | _, _ => none
  | .lconst k => match f with
    | (pc, L, S, w, c, n) => some (pc + 1, L, .inl (.long (Int64.ofNat k.val)) :: S, w, c, n)
  | .ldc_w _ => match f, ops with
    | (pc, L, S, w, c, n), [_, v] => some (pc + 3, L, .inl (.int (Int32.ofNat v)) :: S, w, c, n)
    | (pc, L, S, w, c, n), [_, _, j] => some (pc + 3, L, .inl (.retAddr j) :: S, w, c, n)
    | _, _ => none
  | .ldc2_w _ => match f, ops with
    | (pc, L, S, w, c, n), [_, v] => some (pc + 3, L, .inl (.long (Int64.ofNat v)) :: S, w, c, n)
    | _, _ => none
  | .lload_n k => ev_load ev_isL k.val 1 f
  | .lload k => ev_load ev_isL k 2 f
  | .lstore_n k => ev_storeL nL k.val 1 f
  | .lstore k => ev_storeL nL k 2 f
  | .ior => ev_bin (fun x y => x ||| y) f
  | .ishl => ev_bin (fun x y => x <<< (y &&& 31)) f
  | .ineg => ev_un (fun x => -x) f
  | .i2s => ev_un (fun x => x.toInt16.toInt32) f
  | .idiv => match f with
    | (pc, L, .inl (.int y) :: .inl (.int x) :: S, w, c, n) => bif decide (y = 0) then none else some (pc + 1, L, .inl (.int (x / y)) :: S, w, c, n)
    | _ => none
  | .l2i => match f with
    | (pc, L, .inl (.long x) :: S, w, c, n) => some (pc + 1, L, .inl (.int x.toInt32) :: S, w, c, n)
    | _ => none
  | .ladd => ev_binL (fun x y => x + y) f
  | .lsub => ev_binL (fun x y => x - y) f
  | .lmul => ev_binL (fun x y => x * y) f
  | .land => ev_binL (fun x y => x &&& y) f
  | .lor => ev_binL (fun x y => x ||| y) f
  | .lxor => ev_binL (fun x y => x ^^^ y) f
  | .ldiv => match f with
    | (pc, L, .inl (.long y) :: .inl (.long x) :: S, w, c, n) => bif decide (y = 0) then none else some (pc + 1, L, .inl (.long (x / y)) :: S, w, c, n)
    | _ => none
  | .lshl => ev_shL (fun x y => x <<< (y.toInt64 &&& 63)) f
  | .lshr => ev_shL (fun x y => x >>> (y.toInt64 &&& 63)) f
  | .lushr => ev_shL (fun x y => (x.toUInt64 >>> (y.toInt64.toUInt64 &&& Int64.toUInt64 63)).toInt64) f
  | .dup2 => match f with
    | (pc, L, a :: b :: S, w, c, n) => bif ev_c1 a && ev_c1 b then some (pc + 1, L, a :: b :: a :: b :: S, w, c, n) else none
    | _ => none
  | .aaload => ev_aald f
  | .lookupswitch _ ps => match f, ops with
    | (_, L, .inl (.int x) :: S, w, c, n), d :: ts => some (ev_lk x.toInt (ps.toList.map Prod.fst) ts d, L, S, w, c, n)
    | _, _ => none
  | _ => none
/-- are two references the same object: known -/
def ev_same (jk : Nat) (a b : ev_V) : Option Bool :=
  match a, b with
  | .inl (.ref i), .inl (.ref j) => some (Nat.beq i j)
  | .inl (.ref _), .inl (.retAddr j) => bif Nat.blt j jk then some false else none
  | .inl (.retAddr i), .inl (.ref _) => bif Nat.blt i jk then some false else none
  | .inl (.retAddr i), .inl (.retAddr j) => bif Nat.blt i jk && Nat.blt j jk then some (Nat.beq i j) else none
  | _, _ => none
/-- is it a String of the world (class number 19), or a String constant -/
def ev_isS (jk : Nat) (w : List ev_C) (v : ev_V) : Bool :=
  match v with
  | .inl (.ref q) => match w[q]? with
    | some (.inl (cj, _)) => Nat.beq cj 19
    | _ => false
  | .inl (.retAddr j) => Nat.blt j jk
  | _ => false
def ev_cond2 (k : ClassFile.ACond) (b : Option Bool) : Option Bool :=
  match k with
  | .eq => b
  | .ne => ev_not b
/-- further instructions: references compared, Strings, arrays of booleans, bytes in fields -/
def ev_step2 (jk : Nat) (ins : Instr) (ops : List Nat) (f : ev_F) : Option ev_F :=
  match ins with
  | .if_acmp k _ => match f, ops with
    | (pc, L, b :: a :: S, w, c, n), [tgt] =>
      match ev_go (ev_cond2 k (ev_same jk a b)) tgt (pc + 3) with
      | some q => some (q, L, S, w, c, n)
      | none => none
    | _, _ => none
  | .instanceof _ => match f with
    | (pc, L, a :: S, w, c, n) => bif ev_isS jk w a then some (pc + 3, L, .inl (.int 1) :: S, w, c, n) else none
    | _ => none
  | .checkcast _ => match f, ops with
    | (pc, L, a :: S, w, c, n), [_] => bif ev_isS jk w a then some (pc + 3, L, a :: S, w, c, n) else none
    | (pc, L, .inl (.ref q) :: S, w, c, n), [_, _] =>
      match w[q]? with
      | some (.inr (t, _, _, _)) => bif Nat.beq t 1 then some (pc + 3, L, .inl (.ref q) :: S, w, c, n) else none
      | _ => none
    | _, _ => none
  | .baload => match f with
    | (pc, L, x :: .inl (.ref q) :: S, w, c, n) =>
      match w[q]? with
      | some (.inr (u, N, d, wr)) =>
        bif Nat.beq 8 u then
          match ev_ix N x with
          | some i => some (pc + 1, L, ev_at d wr i :: S, w, c, n)
          | none => none
        else none
      | _ => none
    | _ => none
  | .bastore => match f with
    | (pc, L, v :: x :: .inl (.ref q) :: S, w, c, n) =>
      match w[q]? with
      | some (.inr (u, N, d, wr)) =>
        bif Nat.beq 8 u && ev_bit v then
          match ev_ix N x with
          | some i => some (pc + 1, L, S, w.set q (.inr (u, N, d, (i, v) :: wr)), c, n)
          | none => none
        else none
      | _ => none
    | _ => none
  | .aastore => match f with
    | (pc, L, .inl (.ref qk) :: x :: .inl (.ref q) :: S, w, c, n) =>
      match w[q]?, w[qk]? with
      | some (.inr (u, N, d, wr)), some (.inl (cj, _)) =>
        bif Nat.beq 3 u && Nat.beq cj 19 then
          match ev_ix N x with
          | some i => some (pc + 1, L, S, w.set q (.inr (u, N, d, (i, .inl (.ref qk)) :: wr)), c, n)
          | none => none
        else none
      | _, _ => none
    | _ => none
  | .getfield _ => match f, ops with
    | (pc, L, .inl (.ref q) :: S, w, c, n), [_, fno] =>
      match w[q]? with
      | some (.inl (cj, fs)) =>
        bif Nat.beq cj 19 && Nat.blt fno 2 then
          match fs[fno]? with
          | some v => some (pc + 3, L, v :: S, w, c, n)
          | none => none
        else none
      | _ => none
    | _, _ => none
  | .putfield _ => match f, ops with
    | (pc, L, .inl (.int x) :: .inl (.ref q) :: S, w, c, n), [_, _, ci, k, _, _] =>
      match w[q]? with
      | some (.inl (cj, fs)) => bif Nat.beq ci cj && (decide (narrow .byte (.int x) = .int x) && fits .byte (.int x)) && Nat.blt k fs.length then some (pc + 3, L, S, w.set q (.inl (cj, fs.set k (.inl (.int x)))), c, n) else none
      | _ => none
    | _, _ => none
  | _ => none
/-- every instruction that is no call, no end -/
def ev_stepA (fds : List (List ev_V)) (jk : Nat) (kb : List (List Int32)) (sc : List ev_V) (nL : Nat) (ins : Instr) (ops : List Nat) (f : ev_F) : Option ev_F :=
  match ev_step fds jk kb sc nL ins ops f with
  | some g => some g
  | none => ev_step2 jk ins ops f
theorem ev_stepA_of {fds : List (List ev_V)} {jk : Nat} {kb : List (List Int32)} {sc : List ev_V} {nL : Nat} {ins : Instr} {ops : List Nat} {f g : ev_F} (h : ev_step fds jk kb sc nL ins ops f = some g) : ev_stepA fds jk kb sc nL ins ops f = some g := by
  unfold ev_stepA
  rw [h]
theorem ev_stepA_cases {fds : List (List ev_V)} {jk : Nat} {kb : List (List Int32)} {sc : List ev_V} {nL : Nat} {ins : Instr} {ops : List Nat} {f g : ev_F} (h : ev_stepA fds jk kb sc nL ins ops f = some g) : ev_step fds jk kb sc nL ins ops f = some g ∨ ev_step2 jk ins ops f = some g := by
  unfold ev_stepA at h
  split at h
  · rename_i x hx
    cases h
    exact Or.inl hx
  · exact Or.inr h
