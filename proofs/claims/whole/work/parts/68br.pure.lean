/-! The parser without the machine: what a text's tokens stand for -/
abbrev Tok := Int32 × Nat × Nat
/-- what is parsed: none (too little fuel), refused at a place, or a tree and the token behind it -/
abbrev PR := Option (Nat ⊕ (Tre × Tok))
def pok (c : Tre) (t : Tok) : PR := some (.inr (c, t))
def per (t : Tok) : PR := some (.inl t.2.1)
def pbi (r : PR) (k : Tre → Tok → PR) : PR := match r with
  | none => none
  | some (.inl e) => some (.inl e)
  | some (.inr (c, t)) => k c t
def nst (dep : Nat) (t : Tok) (k : Nat → PR) : PR := if dep < 150 then k (dep + 1) else per t
section Px
variable (T : Nat → Int32) (n : Nat) (P : Nat → Nat → List Tre → Tok → PR)
noncomputable def adv (t : Tok) : Tok := tkz T n t.2.2
noncomputable def exq (j : Nat) (t : Tok) (k : Tok → PR) : PR := if tis T t (txt j) = 0 then per t else k (adv T n t)
/-- the first of some constants that the token is, or 0 -/
def one (t : Tok) : List Nat → Nat
  | [] => 0
  | j :: l => if tis T t (txt j) = 0 then one t l else j
noncomputable def pxA (op sub lp dep : Nat) (t : Tok) : PR := pbi (P sub dep [] t) (fun c t1 => if tis T t1 (txt op) = 0 then pok c t1 else P lp dep [c] t1)
noncomputable def pxAl (op sub lp dep : Nat) (cs : List Tre) (t : Tok) : PR := if tis T t (txt op) = 0 then pok (tmk op 0 [] cs) t else pbi (P sub dep [] (adv T n t)) (fun c t1 => P lp dep (cs ++ [c]) t1)
noncomputable def pxB (m : List Nat) (sub lp dep : Nat) (t : Tok) : PR := pbi (P sub dep [] t) (fun c t1 => if one T t1 m = 0 then pok c t1 else P lp dep [c] t1)
noncomputable def pxBl (m : List Nat) (sub lp dep : Nat) (cs : List Tre) (t : Tok) : PR := if one T t m = 0 then pok (tmk 66 0 [] cs) t else pbi (P sub dep [] (adv T n t)) (fun c t1 => P lp dep (cs ++ [tmk (one T t m) 0 [] [c]]) t1)
noncomputable def px4 (dep : Nat) (t : Tok) : PR := nst dep t fun dep1 =>
  if tis T t (txt 18) = 0 then
    (if one T t [41, 42, 43, 44, 45, 46] = 0 then
      (if one T t [47, 48] = 0 then P 5 dep1 [] t
       else exq T n 12 (adv T n t) fun t2 => nst dep1 t2 fun dep2 => pbi (P 0 dep2 [] t2) fun c t3 => exq T n 49 t3 fun t4 => nst dep1 t4 fun dep3 => pbi (P 0 dep3 [] t4) fun c2 t5 => exq T n 13 t5 fun t6 => pok (tmk (one T t [47, 48]) 0 [] [c, c2]) t6)
     else pbi (P 4 dep1 [] (adv T n t)) fun c t1 => pok (tmk (one T t [41, 42, 43, 44, 45, 46]) 0 [] [c]) t1)
  else pbi (P 4 dep1 [] (adv T n t)) fun c t1 => pok (tmk 18 0 [] [c]) t1
noncomputable def px5 (dep : Nat) (t : Tok) : PR := pbi (P 6 dep [] t) fun c t1 =>
  if tis T t1 (txt 50) = 0 then
    (if one T t1 [21, 5, 22, 6, 23, 7] = 0 then pok c t1 else pbi (P 6 dep [] (adv T n t1)) fun c2 t2 => pok (tmk (one T t1 [21, 5, 22, 6, 23, 7]) 0 [] [c, c2]) t2)
  else exq T n 10 (adv T n t1) fun t2 => pbi (P 0 dep [] t2) fun c2 t3 => P 25 dep [c, c2] t3
/-- a list in { }: , and } -/
noncomputable def pxL (k lp dep : Nat) (cs : List Tre) (t : Tok) : PR := if tis T t (txt 14) = 0 then exq T n 11 t (fun t1 => pok (tmk k 0 [] cs) t1) else pbi (P 0 dep [] (adv T n t)) fun c t1 => P lp dep (cs ++ [c]) t1
/-- names with points between -/
noncomputable def pth : Nat → Nat → List (List Int32) → Tok → PR
  | 0, _, _, _ => none
  | f + 1, k, ns, t => if tis T t (txt 17) = 0 then pok (tmk k 0 ns []) t else if nmz T (adv T n t) = 0 then per (adv T n t) else pth f k (ns ++ [slc T (adv T n t).2.1 (adv T n t).2.2]) (adv T n (adv T n t))
noncomputable def pxp (k : Nat) (t : Tok) : PR := if nmz T t = 0 then per t else pth T n (n + 1) k [slc T t.2.1 t.2.2] (adv T n t)
noncomputable def px8 (dep : Nat) (t : Tok) : PR := nst dep t fun dep1 =>
  if tis T t (txt 25) = 0 then
    (if t.1 = 3 then pok (tmk 63 (nuz T n (n + 1) 0 t.2.1).1 [] []) (adv T n t)
     else if one T t [54, 55] = 0 then
       (if tis T t (txt 33) = 0 then
         (if tis T t (txt 8) = 0 then
           (if tis T t (txt 52) = 0 then pxp T n 64 t else P 9 dep1 [] t)
          else nst dep1 (adv T n t) fun dep2 => pbi (P 0 dep2 [] (adv T n t)) fun c t2 => exq T n 9 t2 fun t3 => pok c t3)
        else exq T n 8 (adv T n t) fun t2 => pbi (pxp T n 33 t2) fun c t3 => exq T n 9 t3 fun t4 => pok c t4)
     else pok (tmk (one T t [54, 55]) 0 [] []) (adv T n t))
  else pbi (P 8 dep1 [] (adv T n t)) fun c t1 => pok (tmk 65 0 [] [c]) t1
noncomputable def px9 (lp dep : Nat) (t : Tok) : PR := nst dep t fun dep1 => exq T n 52 t fun t1 => P lp dep1 [] t1
noncomputable def pxC (sub lp dep : Nat) (cs : List Tre) (t : Tok) : PR := pbi (P 0 dep [] t) fun c t1 => exq T n 16 t1 fun t2 => pbi (P sub dep [] t2) fun c2 t3 => exq T n 15 t3 fun t4 => if tis T t4 (txt 53) = 0 then P lp dep (cs ++ [c] ++ [c2]) t4 else pok (tmk 52 0 [] (cs ++ [c] ++ [c2])) (adv T n t4)
noncomputable def px11 (dep : Nat) (t : Tok) : PR := nst dep t fun dep1 =>
  if tis T t (txt 10) = 0 then (if tis T t (txt 52) = 0 then P 0 dep1 [] t else P 10 dep1 [] t)
  else pbi (P 0 dep1 [] (adv T n t)) fun c t1 => P 31 dep1 [c] t1
/-- one step: 0 expression, 1 implication, 2 disjunction, 3 conjunction, 4 prefix, 5 relation, 6 sum, 7 term, 8 factor, 9 and 10 cases, 11 choice; from 20 on their loops -/
noncomputable def pxs (nt dep : Nat) (cs : List Tre) (t : Tok) : PR :=
  if nt = 0 then pxA T P 1 1 20 dep t else if nt = 20 then pxAl T n P 1 1 20 dep cs t
  else if nt = 1 then pxA T P 2 2 21 dep t else if nt = 21 then pxAl T n P 2 2 21 dep cs t
  else if nt = 2 then pxB T P [20, 40] 3 22 dep t else if nt = 22 then pxBl T n P [20, 40] 3 22 dep cs t
  else if nt = 3 then pxA T P 19 4 23 dep t else if nt = 23 then pxAl T n P 19 4 23 dep cs t
  else if nt = 4 then px4 T n P dep t
  else if nt = 5 then px5 T n P dep t else if nt = 25 then pxL T n P 50 25 dep cs t
  else if nt = 6 then pxB T P [24, 25] 7 26 dep t else if nt = 26 then pxBl T n P [24, 25] 7 26 dep cs t
  else if nt = 7 then pxB T P [26, 27, 51] 8 27 dep t else if nt = 27 then pxBl T n P [26, 27, 51] 8 27 dep cs t
  else if nt = 8 then px8 T n P dep t
  else if nt = 9 then px9 T n P 29 dep t else if nt = 29 then pxC T n P 0 29 dep cs t
  else if nt = 10 then px9 T n P 30 dep t else if nt = 30 then pxC T n P 11 30 dep cs t
  else if nt = 11 then px11 T n P dep t else if nt = 31 then pxL T n P 10 31 dep cs t
  else none
end Px
noncomputable def px (T : Nat → Int32) (n : Nat) : Nat → Nat → Nat → List Tre → Tok → PR
  | 0 => fun _ _ _ _ => none
  | f + 1 => pxs T n (px T n f)
theorem pbi_ok {r : PR} {k : Tre → Tok → PR} {res : Nat ⊕ (Tre × Tok)} (h : pbi r k = some res) : (∃ e, r = some (.inl e) ∧ res = .inl e) ∨ ∃ c t, r = some (.inr (c, t)) ∧ k c t = some res := by
  match r, h with
  | none, h => cases h
  | some (.inl e), h => exact Or.inl ⟨e, rfl, (Option.some.inj h).symm⟩
  | some (.inr (c, t)), h => exact Or.inr ⟨c, t, rfl, h⟩
/-- what a method of the parser does: rk frames at the last depth, 6 more for each depth left -/
def pct (T : Nat → Int32) (n f nt mth rk : Nat) : Prop := ∀ (d dep : Nat) (t : Tok) (F : Nat → Prop) (H : mu_H) (res : Nat ⊕ (Tre × Tok)), pst T n t dep F H → mu_z H + pot n t + 40 ≤ 1000000 → px T n f nt dep [] t = some res → mu_TX (mu_D (d + 6 * (150 - dep) + rk)) mth [.inr (.inr (some 169))] H (fun H1 => ∃ e, res = .inl e ∧ pbd T n e (pot n t + 30) H H1) (fun v H1 => ∃ c t1 q F1, v = some (.inr (.inr (some q))) ∧ res = .inr (c, t1) ∧ pst T n t1 dep F1 H1 ∧ nd H1 F1 f q c ∧ pot n t1 + 12 ≤ pot n t ∧ pfr (pot n t - pot n t1 - 12) F F1 H H1)
