/-! Calls, ends, throws: the evaluator itself -/
def ev_find : List ev_I → Nat → Option (Instr × List Nat)
  | [], _ => none
  | (q, i, ops) :: t, k => bif Nat.beq q k then some (i, ops) else ev_find t k
/-- the handler that takes a thrown object of class x at pc -/
def ev_hand : List (Nat × Nat × Nat × Nat) → Nat → Nat → Option Nat
  | [], _, _ => none
  | (a, b, t, y) :: r, pc, x => bif Nat.ble a pc && Nat.blt pc b && Nat.beq x y then some t else ev_hand r pc x
def ev_opt : Option ev_V → List ev_V
  | none => []
  | some v => [v]
/-- na arguments off the stack, the first first; the rest -/
def ev_args (na : Nat) (S : List ev_V) : List ev_V × List ev_V := ((S.take na).reverse, S.drop na)
/-- the copied bytes -/
def ev_copy (d0 : ev_V) (wr0 : List (Nat × ev_V)) (sp dp : Nat) : Nat → List (Nat × ev_V) → List (Nat × ev_V)
  | 0, wr => wr
  | k + 1, wr => (dp + k, ev_at d0 wr0 (sp + k)) :: ev_copy d0 wr0 sp dp k wr
def ev_known : Option Int32 → Option Nat
  | some i => bif decide (i < 0) then none else some i.toNatClampNeg
  | none => none
def ev_isb (v : ev_V) : Bool :=
  match v with
  | .inl (.int x) => fits .byte (.int x)
  | _ => false
def ev_bytesOk (d0 : ev_V) (wr0 : List (Nat × ev_V)) (sp : Nat) : Nat → Bool
  | 0 => true
  | k + 1 => ev_isb (ev_at d0 wr0 (sp + k)) && ev_bytesOk d0 wr0 sp k
def ev_acopy (f : ev_F) : Option ev_F :=
  match f with
  | (pc, L, x3 :: x2 :: .inl (.ref q1) :: x1 :: .inl (.ref q0) :: S, w, c, n) =>
    match w[q0]?, w[q1]?, ev_known (ev_int x1), ev_known (ev_int x2), ev_known (ev_int x3) with
    | some (.inr (t0, N0, d0, wr0)), some (.inr (t1, N1, d1, wr1)), some sp, some dp, some k =>
      bif Nat.beq t0 t1 && Nat.blt t1 3 && Nat.ble (sp + k) N0 && Nat.ble (dp + k) N1 && (!Nat.beq t1 1 || ev_bytesOk d0 wr0 sp k) && Nat.ble (ev_wds S) 8 then some (pc + 3, L, S, w.set q1 (.inr (t1, N1, d1, ev_copy d0 wr0 sp dp k wr1)), c, n) else none
    | _, _, _, _, _ => none
  | _ => none
/-- an array of bytes, cloned -/
def ev_clone (f : ev_F) : Option ev_F :=
  match f with
  | (pc, L, .inl (.ref q) :: S, w, c, n) =>
    match w[q]? with
    | some (.inr (t, N, d, wr)) => bif Nat.beq t 1 && ev_bytesOk d wr 0 N && Nat.ble (ev_wds S) 8 then some (pc + 3, L, .inl (.ref w.length) :: S, w ++ [.inr (t, N, d, wr)], c + 1, n + N) else none
    | _ => none
  | _ => none
/-- one instruction, calls and ends among them: 'run' are the methods that it calls, 'go' the rest of this one -/
def ev_body {α : Type} (fin : ev_R → Option α) (run : Nat → List ev_V → List ev_C → Option ev_R) (fds : List (List ev_V)) (jk : Nat) (kb : List (List Int32)) (sc : List ev_V) (nL : Nat) (hh : List (Nat × Nat × Nat × Nat)) (code : List ev_I) (go : ev_F → Option α) (f : ev_F) : Option α :=
  match ev_find code f.1 with
  | none => none
  | some (ins, ops) =>
    match ins with
    | .ireturn => match f with
      | (_, _, [v], w, c, n) => bif ev_isI v then fin (.inl (some v), w, c, n) else none
      | _ => none
    | .return_ => match f with
      | (_, _, [], w, c, n) => fin (.inl none, w, c, n)
      | _ => none
    | .lreturn => match f with
      | (_, _, [v], w, c, n) => bif ev_isL v then fin (.inl (some v), w, c, n) else none
      | _ => none
    | .areturn => match f with
      | (_, _, [v], w, c, n) => bif ev_isR v then fin (.inl (some v), w, c, n) else none
      | _ => none
    | .athrow => none
    | .invokespecial _ => match ops with
      | [_] => match f with
        | (pc, L, .inl (.ref _) :: S, w, c, n) => bif Nat.ble (ev_wds S) 8 then go (pc + 3, L, S, w, c, n) else none
        | _ => none
      | _ :: mj :: na :: _ => match f with
        | (pc, L, S, w, c, n) =>
          match ev_args na S with
          | (as, .inl (.ref q) :: S1) =>
            bif Nat.beq as.length na && Nat.ble (ev_wds S1) 8 then
              match run mj (.inl (.ref q) :: as) w with
              | some (.inl rv, w1, c1, n1) => go (pc + 3, L, ev_opt rv ++ S1, w1, c + c1, n + n1)
              | _ => none
            else none
          | _ => none
      | _ => none
    | .invokestatic _ => match ops with
      | [_] => match ev_acopy f with
        | some f1 => go f1
        | none => none
      | mj :: na :: _ => match f with
        | (pc, L, S, w, c, n) =>
          match ev_args na S with
          | (as, S1) =>
            bif Nat.beq as.length na && Nat.ble (ev_wds S1) 8 then
              match run mj as w with
              | some (.inl rv, w1, c1, n1) => go (pc + 3, L, ev_opt rv ++ S1, w1, c + c1, n + n1)
              | _ => none
            else none
      | _ => none
    | .invokevirtual _ => match ops with
      | [_] => match ev_clone f with
        | some f1 => go f1
        | none => none
      | mj :: na :: ci :: _ => match f with
        | (pc, L, S, w, c, n) =>
          match ev_args na S with
          | (as, o :: S1) =>
            bif Nat.beq as.length na && Nat.ble (ev_wds S1) 8 && ev_recv jk w ci o then
              match run mj (o :: as) w with
              | some (.inl rv, w1, c1, n1) => go (pc + 3, L, ev_opt rv ++ S1, w1, c + c1, n + n1)
              | some (.inr x, w1, c1, n1) =>
                match ev_hand hh pc x with
                | some t => go (t, L, [.inr none], w1, c + c1, n + n1)
                | none => match hh with
                  | [] => fin (.inr x, w1, c + c1, n + n1)
                  | _ => none
              | none => none
            else none
          | _ => none
      | _ => none
    | .new _ => match ops with
      | [_, _, _, _, x] => match f with
        | (pc, _, S, w, c, n) =>
          match ev_find code (pc + 3), ev_find code (pc + 4), ev_find code (pc + 7) with
          | some (.dup, _), some (.invokespecial _, [_, y]), some (.athrow, _) => bif Nat.ble S.length 3 && hh.isEmpty && Nat.beq x y then fin (.inr x, w, c + 1, n + 6) else none
          | _, _, _ => none
      | _ => match ev_stepA fds jk kb sc nL ins ops f with
        | some f1 => go f1
        | none => none
    | _ => match ev_stepA fds jk kb sc nL ins ops f with
      | some f1 => go f1
      | none => none
where
  /-- the receiver: an object of the world of class number ci, or (ci = 999) a String constant -/
  ev_recv (jk : Nat) (w : List ev_C) (ci : Nat) (o : ev_V) : Bool :=
    match o with
    | .inl (.ref q) =>
      match w[q]? with
      | some (.inl (cj, _)) => Nat.beq ci cj || (Nat.beq ci 999 && Nat.beq cj 19)
      | _ => false
    | .inl (.retAddr j) => Nat.beq ci 999 && Nat.blt j jk
    | _ => false
/-- does the answer fit the type of the method's -/
def ev_rok (ret : Option FieldType) (hh : List (Nat × Nat × Nat × Nat)) (res : ev_R) : Bool :=
  match res.1 with
  | .inl none => decide (ret = none)
  | .inl (some v) => match ret with
    | some .int => ev_isI v
    | some .long => ev_isL v
    | some (.object _) => ev_isR v
    | some (.array _) => ev_isR v
    | some ty => match v with
      | .inl (.int x) => decide (narrow ty (.int x) = .int x)
      | _ => false
    | none => false
  | .inr x => Nat.blt x 4 && hh.isEmpty
noncomputable def ev_loop (ret : Option FieldType) (run : Nat → List ev_V → List ev_C → Option ev_R) (fds : List (List ev_V)) (jk : Nat) (kb : List (List Int32)) (sc : List ev_V) (nL : Nat) (hh : List (Nat × Nat × Nat × Nat)) (code : List ev_I) (fuel : Nat) : ev_F → Option ev_R :=
  Nat.rec (fun _ => none) (fun _ go f => ev_body (fun r => bif ev_rok ret hh r then some r else none) run fds jk kb sc nL hh code go f) fuel
/-- up to a place of the method -/
noncomputable def ev_to (run : Nat → List ev_V → List ev_C → Option ev_R) (fds : List (List ev_V)) (jk : Nat) (kb : List (List Int32)) (sc : List ev_V) (nL : Nat) (hh : List (Nat × Nat × Nat × Nat)) (code : List ev_I) (stop fuel : Nat) : ev_F → Option ev_F :=
  Nat.rec (fun _ => none) (fun _ go f => bif Nat.beq f.1 stop then some f else ev_body (fun _ => none) run fds jk kb sc nL hh code go f) fuel
/-- locals at a method's start -/
def ev_ent : Nat → List ev_V → List (Nat × ev_V)
  | _, [] => []
  | i, v :: t => (i, v) :: ev_ent (bif ev_c1 v then i + 1 else i + 2) t
/-- a method: its maxLocals, its answer's type, its handlers, its instructions -/
abbrev ev_M : Type := Nat × Option FieldType × List (Nat × Nat × Nat × Nat) × List ev_I
noncomputable def ev_run (ms : Nat → Option ev_M) (fds : List (List ev_V)) (jk : Nat) (kb : List (List Int32)) (d : Nat) : Nat → List ev_V → List ev_C → Option ev_R :=
  Nat.rec (fun _ _ _ => none) (fun _ run mi as w =>
    match ms mi with
    | some (nL, ret, hh, code) => bif Nat.ble (ev_wds as) nL then ev_loop ret run fds jk kb [] nL hh code 20000 (0, ev_ent 0 as, [], w, 0, 0) else none
    | none => none) d
