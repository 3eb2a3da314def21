/-! THE MACHINE: several E side by side -/
/-- code that leaves so many parts -/
def rgs (s : Ts) (k : Nat) (L : List Bool) (a b : Nat) : Prop := a ≤ b ∧ b ≤ (s 0).1 ∧ kst (s 0) a (b - a) = some L ∧ ∀ p, a ≤ p → p < b → ((s 0).2 p 0 = 2 ∨ (s 0).2 p 0 = 3) → ∃ r, (s 0).2 p 1 = nI r ∧ sp s k 6 ≤ r ∧ r < sp s (k + 1) 6
/-- the next of a VARIABLE that has a place is named -/
def NXW (Y : Ts) (t : Tb) (P a N i : Nat) : Prop := ∃ x, x < N ∧ oc Y (a + x) = 3 ∧ (Y 9).2 (oa Y (a + x)) 2 = 3 ∧ ∃ w pl, w < (Y 15).1 ∧ pl < P ∧ rch Y (oa Y (a + x)) i = nI w ∧ t.2 w 2 = nI pl
theorem NXW.of {Y : Ts} {t t1 : Tb} {P a N i : Nat} (e : t1 = t) (h : NXW Y t1 P a N i) : NXW Y t P a N i := by rw [← e]; exact h
section SideBySide
variable {a b x y : Int32} {kk o p q t f n N i k A : Nat} {Y : Ts} {L L' : List Bool} {kd : Bool} {es : Nat → Int32} {al : Int32} {rs lv c : Nat → Int32}
variable {Lk : List Bool}
theorem rgs_of (h : rg Y k kd p q) : rgs Y k [kd] p q := h
theorem rgs_n {p' q' : Nat} (h : rgs Y k Lk p' q') (hn : n < q' - p') : plen (oc Y (p' + n)) (oa Y (p' + n)) ≤ tpz Y p' n ∧ True := by
  obtain ⟨h1, h2, h3, h4⟩ := h
  obtain ⟨L, e⟩ := kst_le h3 (show n + 1 ≤ q' - p' by omega)
  obtain ⟨L', e1, e2⟩ := kst_step e
  obtain ⟨t, e3, e4⟩ := ktake_some e2
  have e5 := kst_tp e1
  rw [e3, List.length_append, kin_len] at e5
  exact ⟨by omega, trivial⟩
theorem rgs_1 {p' q' : Nat} (h : rgs Y k Lk p' q') : tpz Y p' (q' - p') = Lk.length := (kst_tp h.2.2.1).symm
theorem rgs_ref {p' : Nat} (hr : rgs Y k Lk p' (p' + N)) (hW : JW Y) (hn : n < N) (h : oc Y (p' + n) = 2 ∨ oc Y (p' + n) = 3) : ∃ r, (Y 0).2 (p' + n) 1 = nI r ∧ sp Y k 6 ≤ r ∧ r < sp Y (k + 1) 6 :=
  hr.2.2.2 _ (Nat.le_add_right _ _) (by omega) (nm_of hW (by have := hr.2.1; omega) h)
theorem typ_n2 {A : Nat} (hc : Cc Y) (hr : rgs Y k Lk A (A + N)) (hs : SRT Y es i al A rs N) (hal : ¬ al = 2) (hlf : ∀ n, n < N → oc Y (A + n) ≤ 3 → cfm (rs n) (lv (A + n))) : ∀ n, n ≤ N → ∀ q, q < tpz Y A n → kdz Y A n q = false → cfm (stk Y rs A n q) (svz Y lv A n q) := by
  intro n
  induction n with
  | zero => intro _ q hq; exact absurd hq (Nat.not_lt_zero _)
  | succ n ih =>
    intro hn q hq hk
    have ih := ih (by omega)
    obtain ⟨h0, hl, hj⟩ := hs n (by omega)
    obtain ⟨ok1, ok2, ok3⟩ := okc_n hc (show A + n < (Y 0).1 by have := hr.2.1; omega)
    have hpl := (rgs_n hr (n := n) (by omega)).1
    obtain ⟨L, hL⟩ := kst_le hr.2.2.1 (show n + 1 ≤ A + N - A by omega)
    have e1 : tpz Y A (n + 1) = tpz Y A n - plen (oc Y (A + n)) (oa Y (A + n)) + 1 := rfl
    rw [e1] at hq
    have hk : (if q = tpz Y A n - plen (oc Y (A + n)) (oa Y (A + n)) then decide (32 ≤ oc Y (A + n)) else kdz Y A n q) = false := hk
    show cfm (if q = tpz Y A n - plen (oc Y (A + n)) (oa Y (A + n)) then rs n else stk Y rs A n q) (if q = tpz Y A n - plen (oc Y (A + n)) (oa Y (A + n)) then (if oc Y (A + n) ≤ 3 then lv (A + n) else if oc Y (A + n) = 32 ∨ oc Y (A + n) = 33 then nI (snz Y A n) else ro (svz Y lv A n) (nI (oc Y (A + n))) (tpz Y A n - plen (oc Y (A + n)) (oa Y (A + n))) (tpz Y A n)) else svz Y lv A n q)
    by_cases eq : q = tpz Y A n - plen (oc Y (A + n)) (oa Y (A + n))
    · rw [if_pos eq] at hk
      rw [if_pos eq, if_pos eq]
      have h32 : oc Y (A + n) < 32 := by
        have := of_decide_eq_false hk
        omega
      by_cases h3 : oc Y (A + n) ≤ 3
      · rw [if_pos h3]; exact hlf n (by omega) h3
      · rw [if_neg h3, if_neg (by omega)]
        have hp1 := plen_1 (o := oc Y (A + n)) (a := oa Y (A + n)) (by omega) (fun z => (ok3 z).2.1)
        have hJ := hj hp1
        have part : ∀ q, tpz Y A n - plen (oc Y (A + n)) (oa Y (A + n)) ≤ q → q < tpz Y A n → cfm (stk Y rs A n q) (svz Y lv A n q) := fun q h1 h2 => ih q h2 (kd_false hL (by omega) h1 h2)
        generalize hP : plen (oc Y (A + n)) (oa Y (A + n)) = P at *
        generalize hT : tpz Y A n = T at *
        rcases hJ with z | ⟨z1, z2, z3⟩ | ⟨z1, z2, z3⟩ | ⟨z1, z2, z3, z4⟩ | ⟨z1, z2, z3, z4⟩ | ⟨z1, z2, z3⟩
        · exact absurd z.2.1 hal
        · rw [ro_jo (by omega) (by omega) ok2]
          rcases z3 with ⟨y1, y2⟩ | ⟨y1, -⟩
          · rw [y1]
            have pa := (part (T - P) (Nat.le_refl _) (by omega)).1 (y2 _ (Nat.le_refl _) (by omega))
            have pb := (part (T - 1) (by omega) (by omega)).1 (y2 _ (by omega) (by omega))
            exact cfm_1 (jo_1 (by omega) pa pb)
          · rw [y1]; exact cfm_9
        · have h31 : oc Y (A + n) = 31 := by omega
          have hro : ro (svz Y lv A n) (nI (oc Y (A + n))) (T - P) T = pkz (svz Y lv A n) 0 ((T - (T - P)) / 2) (T - P) := by
            rw [h31]; rfl
          rw [hro]
          have hP2 : P = 2 * oa Y (A + n) := by rw [← hP, h31, plen_31]
          refine pkz_cfm (cfm_0 z2) _ _ (fun q hq => ?_)
          have := part (T - P + 2 * q + 1) (by omega) (by omega)
          rw [(z3 q (by omega)).2] at this
          exact this
        · rw [z4]
          by_cases h30 : oc Y (A + n) = 30
          · have hro : ro (svz Y lv A n) (nI (oc Y (A + n))) (T - P) T = innz (svz Y lv A n) (svz Y lv A n (T - P)) (T - (T - P + 1)) (T - P + 1) := by rw [h30]; rfl
            rw [hro]
            exact cfm_1 (innz_01 _ _)
          · rw [ro_jo (by omega) h30 ok2]
            exact cfm_1 (jo_2 (by omega))
        · omega
        · rw [z3, ro_jo (by omega) (by omega) ok2]
          have pa := (part (T - P) (Nat.le_refl _) (by omega)).2 (z2 _ (Nat.le_refl _) (by omega))
          have pb := (part (T - 1) (by omega) (by omega)).2 (z2 _ (by omega) (by omega))
          by_cases h22 : 22 ≤ oc Y (A + n)
          · rw [if_pos h22]; exact cfm_2 (jo_3 (by omega) pa pb)
          · rw [if_neg h22]; exact cfm_1 (jo_2 (by omega))
    · rw [if_neg eq] at hk
      rw [if_neg eq, if_neg eq]
      exact ih q (by omega) hk
theorem okz_of2 {A l : Nat} {lv : Nat → Nat → Int32} (hc : Cc Y) (hr : rgs Y k Lk A (A + N)) (hs : SRT Y es i al A rs N) (hal : ¬ al = 2) (hlf : ∀ j, j < l → ∀ n, n < N → oc Y (A + n) ≤ 3 → cfm (rs n) (lv j (A + n))) : ∀ n, n < N → okz Y A n l lv := by
  intro n hn
  obtain ⟨ok1, ok2, ok3⟩ := okc_n hc (show A + n < (Y 0).1 by have := hr.2.1; omega)
  have hpl := (rgs_n hr (n := n) (by omega)).1
  obtain ⟨h0, hl, hj⟩ := hs n hn
  obtain ⟨L, hL⟩ := kst_le hr.2.2.1 (show n + 1 ≤ A + N - A by omega)
  have ty := fun j (hjl : j < l) => typ_n2 (lv := lv j) hc hr hs hal (hlf j hjl) n (by omega)
  refine ⟨⟨ok1, ok2, hpl⟩, fun h3 => ?_, fun z => ⟨(ok3 z).1, (ok3 z).2.2⟩, fun h34 q h1 h2 h4 j hjl => ?_, fun hop j hjl => ?_⟩
  · have hp1 := plen_1 (o := oc Y (A + n)) (a := oa Y (A + n)) h3 (fun z => (ok3 z).2.1)
    have := jok_op (hj hp1) hal
    exact ⟨by omega, hp1⟩
  · have hp1 := plen_1 (o := oc Y (A + n)) (a := oa Y (A + n)) (by omega) (fun z => (ok3 z).2.1)
    have hP2 : plen (oc Y (A + n)) (oa Y (A + n)) = 2 * oa Y (A + n) := by
      rcases h34 with z | z <;> rw [z]
      · exact plen_31
      · exact plen_34
    obtain ⟨y, hy⟩ : ∃ y, q = tpz Y A n - plen (oc Y (A + n)) (oa Y (A + n)) + 2 * y := ⟨(q - (tpz Y A n - plen (oc Y (A + n)) (oa Y (A + n)))) / 2, by omega⟩
    have hS : stk Y rs A n q = 1 := by
      rcases hj hp1 with z | ⟨z, -⟩ | ⟨-, -, z⟩ | ⟨z, -⟩ | ⟨z, -⟩ | ⟨z, -⟩
      · exact absurd z.2.1 hal
      · omega
      · rw [hy]; exact (z y (by omega)).1
      · omega
      · omega
      · omega
    refine (ty j hjl q h2 ?_).1 hS
    rcases h34 with z | z
    · exact kd_false hL (by omega) h1 h2
    · rw [hy]; exact kd_cond hL z hpl (by omega)
  · have hp1 := plen_1 (o := oc Y (A + n)) (a := oa Y (A + n)) (by omega) (fun z => (ok3 z).2.1)
    have hS : ∀ q, tpz Y A n - plen (oc Y (A + n)) (oa Y (A + n)) ≤ q → q < tpz Y A n → stk Y rs A n q = 2 := by
      rcases hj hp1 with z | ⟨z, -⟩ | ⟨z, -⟩ | ⟨z, -⟩ | ⟨z, -⟩ | ⟨-, z, -⟩
      · exact absurd z.2.1 hal
      · omega
      · omega
      · omega
      · omega
      · exact fun q h1 h2 => z q h1 (by omega)
    exact ⟨(ty j hjl _ (by omega) (kd_false hL (by omega) (Nat.le_refl _) (by omega))).2 (hS _ (Nat.le_refl _) (by omega)), (ty j hjl _ (by omega) (kd_false hL (by omega) (by omega) (by omega))).2 (hS _ (by omega) (by omega))⟩
end SideBySide
section Note2
variable {H : mu_H} {m d P a b n N i r w pl e0 c0 w0 E : Nat} {C : Nat → Nat} {U V V1 V2 : Ud} {Y : Ts} {NX : Prop} {x : Int32}
end Note2
