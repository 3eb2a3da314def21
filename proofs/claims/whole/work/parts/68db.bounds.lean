/-! The reference: INSTANCES grow, without the machine; bounds -/
/-- how many places of rows are used -/
def plx (pr : Nat → List (Tre × Nat)) : Nat := (pr 0).length + (pr 1).length + (pr 2).length + (pr 3).length
theorem plx_up {pr : Nat → List (Tre × Nat)} {k : Nat} {x : Tre × Nat} (hk : k < 4) : plx (pup pr k (pr k ++ [x])) = plx pr + 1 := by
  have hc : k = 0 ∨ k = 1 ∨ k = 2 ∨ k = 3 := by omega
  have ll : (pr k ++ [x]).length = (pr k).length + 1 := by rw [List.length_append]; rfl
  unfold plx
  rcases hc with rfl | rfl | rfl | rfl
  · rw [show pup pr 0 (pr 0 ++ [x]) 0 = pr 0 ++ [x] from rfl, ll]; show (pr 0).length + 1 + (pr 1).length + (pr 2).length + (pr 3).length = _; omega
  · rw [show pup pr 1 (pr 1 ++ [x]) 1 = pr 1 ++ [x] from rfl, ll]; show (pr 0).length + ((pr 1).length + 1) + (pr 2).length + (pr 3).length = _; omega
  · rw [show pup pr 2 (pr 2 ++ [x]) 2 = pr 2 ++ [x] from rfl, ll]; show (pr 0).length + (pr 1).length + ((pr 2).length + 1) + (pr 3).length = _; omega
  · rw [show pup pr 3 (pr 3 ++ [x]) 3 = pr 3 ++ [x] from rfl, ll]; show (pr 0).length + (pr 1).length + (pr 2).length + ((pr 3).length + 1) = _; omega
theorem plx_le {pr : Nat → List (Tre × Nat)} {k : Nat} (hk : k < 4) : (pr k).length ≤ plx pr := by
  have hc : k = 0 ∨ k = 1 ∨ k = 2 ∨ k = 3 := by omega
  unfold plx
  rcases hc with rfl | rfl | rfl | rfl <;> omega
section Bd
variable {T : Nat → Int32} {n0 dep lv r cap mp A B n en : Nat} {t : Tok} {F : Nat → Prop} {ms : List Mdl} {sy : List (List Int32)} {Hb H : mu_H} {loc : Nat → Nat} {Iv : Nat → Ins} {pr : Nat → List (Tre × Nat)}
theorem bmk.cpb (h : bmk T n0 t dep F lv r ms cap sy Hb mp A B loc n Iv pr en H) : cps H loc ≤ 4 * plx pr + 512 := by
  have w := fun k (hk : k < 4) => h.2.1.2.2.2.1 k hk
  have a0 : _ ∧ _ ∧ mu_n H (loc 1) ≤ 2 * (pr 0).length + 64 := (w 0 (by decide)).2.1.2.1
  have b0 : _ ∧ _ ∧ mu_n H (loc 2) ≤ 2 * (pr 0).length + 64 := (w 0 (by decide)).2.2.2.1
  have a1 : _ ∧ _ ∧ mu_n H (loc 3) ≤ 2 * (pr 1).length + 64 := (w 1 (by decide)).2.1.2.1
  have b1 : _ ∧ _ ∧ mu_n H (loc 4) ≤ 2 * (pr 1).length + 64 := (w 1 (by decide)).2.2.2.1
  have a2 : _ ∧ _ ∧ mu_n H (loc 5) ≤ 2 * (pr 2).length + 64 := (w 2 (by decide)).2.1.2.1
  have b2 : _ ∧ _ ∧ mu_n H (loc 6) ≤ 2 * (pr 2).length + 64 := (w 2 (by decide)).2.2.2.1
  have a3 : _ ∧ _ ∧ mu_n H (loc 7) ≤ 2 * (pr 3).length + 64 := (w 3 (by decide)).2.1.2.1
  have b3 : _ ∧ _ ∧ mu_n H (loc 8) ≤ 2 * (pr 3).length + 64 := (w 3 (by decide)).2.2.2.1
  unfold cps plx
  omega
end Bd
/-- SPECs and FAIRNESS of an INSTANCE j -/
def spl (cs : List Tre) (j : Nat) : Nat → Nat → (Nat → List (Tre × Nat)) → (Nat → List (Tre × Nat))
  | 0, _, pr => pr
  | m + 1, k, pr => spl cs j m (k + 1) (if tkd (nth cs k) = 38 then pup pr 2 (pr 2 ++ [(tkk (nth cs k) 0, j)]) else if tkd (nth cs k) = 37 then pup pr 3 (pr 3 ++ [(tkk (nth cs k) 0, j)]) else pr)
/-- what is given to an INSTANCE stands in its parent -/
def gvl (c : Tre) (par : Nat) : Nat → Nat → (Nat → List (Tre × Nat)) → (Nat → List (Tre × Nat))
  | 0, _, pr => pr
  | m + 1, k, pr => gvl c par m (k + 1) (pup pr 0 (pr 0 ++ [(tkk c k, par)]))
