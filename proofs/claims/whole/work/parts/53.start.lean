/-! A world of literals, as functions; the world behind the constructors -/
def mu_ofi : ev_V → Int32
  | .inl (.int x) => x
  | _ => 0
def mu_ofl : ev_V → Int64
  | .inl (.long x) => x
  | _ => 0
def mu_ofr : ev_V → Option Nat
  | .inl (.ref k) => some k
  | .inl (.retAddr k) => some (1000000 + k)
  | .inr none => some 3000000
  | _ => none
def mu_ofk : ev_C → Nat
  | .inl (ci, _) => ci
  | .inr (t, _, _, _) => 100 + t
def mu_ofn : ev_C → Nat
  | .inl _ => 0
  | .inr (_, N, _, _) => N
def mu_ofv (x : ev_C) (j : Nat) : ev_V :=
  match x with
  | .inl (_, fs) => fs.getD j ev_zero
  | .inr (_, _, d, wr) => ev_at d wr j
def mu_ofc (w : List ev_C) (q : Nat) : ev_C := w.getD q (.inl (0, []))
def mu_of (w : List ev_C) : mu_H := ((fun q => if 1001000 ≤ q then 100 + ev_oty ev_kb (q - 1000000) else mu_ofk (mu_ofc w q)), (fun q => if 1001000 ≤ q then (ev_kb.getD (q - 1001000) []).length else mu_ofn (mu_ofc w q)), (fun q j => if 1001000 ≤ q then (ev_kb.getD (q - 1001000) []).getD j 0 else mu_ofi (mu_ofv (mu_ofc w q) j)), (fun q j => mu_ofl (mu_ofv (mu_ofc w q) j)), (fun q j => mu_ofr (mu_ofv (mu_ofc w q) j)), w.length, 0, 0)
/-- is a value of the kind tc, and known -/
def mu_okv (tc : Nat) (v : ev_V) : Bool :=
  match tc with
  | 2 => match v with
    | .inl .null => true
    | .inl (.ref k) => Nat.blt k 1000000
    | .inl (.retAddr k) => Nat.blt k 2000000
    | .inr none => true
    | _ => false
  | 3 => match v with
    | .inl (.long _) => true
    | _ => false
  | _ => match v with
    | .inl (.int _) => true
    | _ => false
theorem mu_okv_ok {tc : Nat} {v : ev_V} {H : mu_H} {q j : Nat} (h : mu_okv tc v = true) (h1 : mu_i H q j = mu_ofi v) (h2 : mu_l H q j = mu_ofl v) (h3 : mu_r H q j = mu_ofr v) : mu_v (mu_f H q j tc) = v := by
  unfold mu_okv at h
  split at h
  · show mu_v (.inr (.inr (mu_r H q j))) = v
    rw [h3]
    split at h
    · rfl
    · rename_i k
      exact mu_v_ref (ev_blt h)
    · rename_i k
      have hk := ev_blt h
      show (bif Nat.ble 1000000 (1000000 + k) then (bif Nat.beq (1000000 + k) 3000000 then _ else _) else _) = _
      rw [Nat.ble_eq_true_of_le (Nat.le_add_right 1000000 k)]
      have : Nat.beq (1000000 + k) 3000000 = false := by
        cases hb : Nat.beq (1000000 + k) 3000000 with
        | false => rfl
        | true => exact absurd (Nat.eq_of_beq_eq_true hb) (by omega)
      rw [this]
      show Sum.inl (Value.retAddr (1000000 + k - 1000000)) = _
      rw [Nat.add_sub_cancel_left]
    · rfl
    · cases h
  · show mu_v (.inr (.inl (mu_l H q j))) = v
    rw [h2]
    split at h
    · rfl
    · cases h
  · rename_i h5 h6
    have e : mu_f H q j tc = .inl (mu_i H q j) := by
      unfold mu_f
      split
      · exact absurd rfl h5
      · exact absurd rfl h6
      · rfl
    rw [e, h1]
    split at h
    · rfl
    · cases h
/-- is a cell of known values, of the kinds that its class has -/
def mu_okc (x : ev_C) : Bool :=
  match x with
  | .inl (ci, fs) => Nat.blt ci 100 && Nat.beq fs.length (mu_ft ci).length && (List.range fs.length).all (fun k => mu_okv ((mu_ft ci).getD k 0) (fs.getD k ev_zero))
  | .inr (t, _, d, wr) => mu_okv (mu_et t) d && wr.all (fun q => mu_okv (mu_et t) q.2)
theorem ev_at_of {P : ev_V → Prop} {d : ev_V} (hd : P d) : ∀ {wr : List (Nat × ev_V)}, (∀ q ∈ wr, P q.2) → ∀ i, P (ev_at d wr i)
  | [], _, i => hd
  | (a, v) :: t, h, i => by
    show P ((bif Nat.beq a i then some v else ev_look t i).getD d)
    cases Nat.beq a i with
    | true => exact h (a, v) List.mem_cons_self
    | false => exact ev_at_of hd (fun q hq => h q (List.mem_cons_of_mem _ hq)) i
theorem mu_of_fs {H : mu_H} {q : Nat} {fs : List ev_V} {ts : List Nat} (hl : fs.length = ts.length) (hv : ∀ k, k < fs.length → mu_v (mu_f H q k (ts.getD k 0)) = fs.getD k ev_zero) : fs = mu_fs H q 0 ts := by
  apply List.ext_getElem?
  intro k
  by_cases hk : k < fs.length
  · have e1 : ts[k]? = some (ts.getD k 0) := by
      rw [List.getD_eq_getElem?_getD, List.getElem?_eq_getElem (hl ▸ hk)]
      rfl
    have e2 : fs[k]? = some (fs.getD k ev_zero) := by
      rw [List.getD_eq_getElem?_getD, List.getElem?_eq_getElem hk]
      rfl
    rw [mu_fs_get H q 0 k ts _ e1, e2, Nat.zero_add, hv k hk]
  · rw [List.getElem?_eq_none (by omega), List.getElem?_eq_none (by rw [mu_fs_len]; omega)]
theorem mu_of_ot (w : List ev_C) : mu_ot (mu_of w) := fun j _ => by
  refine ⟨?_, ?_, fun i => ?_⟩
  · show (if 1001000 ≤ 1001000 + j then 100 + ev_oty ev_kb (1001000 + j - 1000000) else _) = _
    rw [if_pos (Nat.le_add_right _ _), show 1001000 + j - 1000000 = 1000 + j by omega]
  · show (if 1001000 ≤ 1001000 + j then (ev_kb.getD (1001000 + j - 1001000) []).length else _) = _
    rw [if_pos (Nat.le_add_right _ _), Nat.add_sub_cancel_left]
  · show (if 1001000 ≤ 1001000 + j then (ev_kb.getD (1001000 + j - 1001000) []).getD i 0 else _) = _
    rw [if_pos (Nat.le_add_right _ _), Nat.add_sub_cancel_left]
theorem mu_of_rep {w : List ev_C} (h : w.all mu_okc = true) (hl : w.length ≤ 1000000) : mu_rep (mu_of w) w := by
  refine ⟨rfl, ⟨hl, mu_of_ot w⟩, fun q x hx => ?_⟩
  have hq : ¬ 1001000 ≤ q := by have := (List.getElem?_eq_some_iff.mp hx).1; omega
  have hc := List.all_eq_true.mp h x (List.mem_of_getElem? hx)
  have e : mu_ofc w q = x := by
    unfold mu_ofc
    rw [List.getD_eq_getElem?_getD, hx]
    rfl
  have ei : ∀ j, mu_i (mu_of w) q j = mu_ofi (mu_ofv x j) := fun j => by rw [← e]; exact if_neg hq
  have el : ∀ j, mu_l (mu_of w) q j = mu_ofl (mu_ofv x j) := fun j => by rw [← e]; rfl
  have er : ∀ j, mu_r (mu_of w) q j = mu_ofr (mu_ofv x j) := fun j => by rw [← e]; rfl
  have ek : mu_k (mu_of w) q = mu_ofk x := by rw [← e]; exact if_neg hq
  have en : mu_n (mu_of w) q = mu_ofn x := by rw [← e]; exact if_neg hq
  match x, hc, ei, el, er, ek, en with
  | .inl (ci, fs), hc, ei, el, er, ek, en =>
    have hc : (Nat.blt ci 100 && Nat.beq fs.length (mu_ft ci).length && (List.range fs.length).all (fun k => mu_okv ((mu_ft ci).getD k 0) (fs.getD k ev_zero))) = true := hc
    rw [Bool.and_eq_true, Bool.and_eq_true] at hc
    obtain ⟨⟨c1, c2⟩, c3⟩ := hc
    refine ⟨ek, ev_blt c1, mu_of_fs (Nat.eq_of_beq_eq_true c2) (fun k hk => ?_)⟩
    exact mu_okv_ok (List.all_eq_true.mp c3 k (List.mem_range.mpr hk)) (ei k) (el k) (er k)
  | .inr (t, N, d, wr), hc, ei, el, er, ek, en =>
    have hc : (mu_okv (mu_et t) d && wr.all (fun q => mu_okv (mu_et t) q.2)) = true := hc
    rw [Bool.and_eq_true] at hc
    refine ⟨ek, en, fun i _ => ?_⟩
    have hok : mu_okv (mu_et t) (ev_at d wr i) = true := ev_at_of (P := fun v => mu_okv (mu_et t) v = true) hc.1 (fun q hq => List.all_eq_true.mp hc.2 q hq) i
    exact (mu_okv_ok hok (ei i) (el i) (er i)).symm
set_option maxRecDepth 100000 in
theorem mu_w0_ok : ev_w0.all mu_okc = true := by decide +kernel
set_option maxRecDepth 100000 in
theorem mu_w0_len : ev_w0.length ≤ 1000000 := by decide +kernel
/-- the world behind the constructors -/
theorem mu_w0_rep : mu_rep (mu_of ev_w0) ev_w0 := mu_of_rep mu_w0_ok mu_w0_len
