/-! RELATION: reserve where outs has room -/
section Reserve
variable {H : mu_H} {U V : Ud} {m d ou mn : Nat} {C : Nat → Nat}
/-- PathProver$Relation.reserve(I)I -/
abbrev mu_m303 : ev_M := (3, (some .int), [], ev_b303)
theorem mu_g303 : mu_good mu_m303 := mu_goodk ev_k303
end Reserve
