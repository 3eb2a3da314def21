/-! What a method comes to at a depth is its contract on the machine -/
section MuSound
variable {l : Launch} {D : va_G} {tys : List (ClassId × FieldType)} {ex : Nat → Nat}
theorem mu_D_ok (hl : l.stackTraces = false) (hT : tys.map Prod.snd = ev_tys) : ∀ (d mi : Nat) (as : List ev_V) (w : List ev_C) (res : ev_R), mu_D d mi as w = some res → ev_Cok l D tys ex d mi as w res
  | 0, mi, as, w, res, h => by cases h
  | d + 1, mi, as, w, res, h => by
    obtain ⟨M, fuel, h1, h2, h3⟩ := mu_D_to h
    obtain ⟨nL, ret, hh, code⟩ := M
    exact ev_upF_ok hl hT ev_mok ev_inf_ok ev_at_all (mu_D_ok hl hT d) mi as w res h1 h2 h3
end MuSound
