/-! The reference: INSTANCES, without the machine -/
abbrev Sg := Nat × (Nat → Ins) × (Nat → List (Tre × Nat)) × Nat
/-- variable[k] of the INSTANCE j -/
def ivs (Iv : Nat → Ins) (j k : Nat) (v : Int32) : Nat → Ins := iup Iv j ((Iv j).1, (Iv j).2.1, fup (Iv j).2.2.1 k v, (Iv j).2.2.2)
/-- inner[k] -/
def ins (Iv : Nat → Ins) (j k i : Nat) : Nat → Ins := iup Iv j ((Iv j).1, (Iv j).2.1, (Iv j).2.2.1, fup (Iv j).2.2.2.1 k (some i), (Iv j).2.2.2.2)
/-- definition[k] -/
def ids (Iv : Nat → Ins) (j k : Nat) (v : Int32) : Nat → Ins := iup Iv j ((Iv j).1, (Iv j).2.1, (Iv j).2.2.1, (Iv j).2.2.2.1, fup (Iv j).2.2.2.2 k v)
/-- the parts of an INSTANCE j, from k on -/
def ipl (ms : List Mdl) (rec : Nat → Nat → Tre → Sg → Option (Option Sg)) (cs : List Tre) (j : Nat) : Nat → Nat → Sg → Option (Option Sg)
  | 0, _, σ => some (some σ)
  | m + 1, k, (n, Iv, pr, en) =>
    if tkd (nth cs k) = 74 then ipl ms rec cs j m (k + 1) (n, ids (ivs Iv j k (-1)) j k (nI (pr 0).length), pup pr 0 (pr 0 ++ [(tkk (nth cs k) 0, j)]), en + 1)
    else if tkd (nth cs k) = 73 then
      (if tkd (tkk (nth cs k) 0) = 72 then (match mtx ms (nam (tkk (nth cs k) 0)) with
        | none => some none
        | some mi => match rec mi j (tkk (nth cs k) 0) (n, ivs Iv j k (-1), pr, en + 1) with
          | none => none
          | some none => some none
          | some (some (n', Iv', pr', en')) => ipl ms rec cs j m (k + 1) (n', ins Iv' j k n, pr', en'))
       else ipl ms rec cs j m (k + 1) (n, ivs (ivs Iv j k (-1)) j k (nI (pr 1).length), pup pr 1 (pr 1 ++ [(tkk (nth cs k) 0, j)]), en + 1))
    else ipl ms rec cs j m (k + 1) (n, ivs Iv j k (-1), pr, en + 1)
/-- an INSTANCE of the MODULE mi; none: too many -/
def ist (ms : List Mdl) : Nat → Nat → Nat → Option Tre → Sg → Option (Option Sg)
  | 0, _, _, _, _ => none
  | f + 1, mi, par, ty, (n, Iv, pr, en) => if 200 ≤ n then some none else
    match ipl ms (fun mi2 par2 ty2 σ => ist ms f mi2 par2 (some ty2) σ) (mth ms mi).2.2 n (mth ms mi).2.2.length 0 (n + 1, iup Iv n (mi, (pr 0).length, (fun _ => 0), (fun _ => none), (fun _ => 0)), (match ty with | none => pr | some c => gvl c par (tsn c) 0 pr), (match ty with | none => en | some c => en + tsn c)) with
    | none => none
    | some none => some none
    | some (some (n', Iv', pr', en')) => if 4000 < en' then some none else some (some (n', Iv', spl (mth ms mi).2.2 n (mth ms mi).2.2.length 0 pr', en'))
/-- numbers that stay in their bounds; s parts are counted and not yet asked for SPECs -/
def ivb (s : Nat) (pr : Nat → List (Tre × Nat)) (en : Nat) : Prop := (pr 0).length + (pr 1).length ≤ en ∧ (pr 2).length + (pr 3).length + s ≤ en
