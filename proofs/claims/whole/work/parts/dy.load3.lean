/-! THE MACHINE: load, for several E -/
section Load3
variable {H : mu_H} {m d P a n N k i r S0 K E a0 N0 i0 dp : Nat} {C : Nat → Nat} {U V V1 : Ud} {Y : Ts} {f od : Nat → Nat} {mk : Int32} {NX : Prop} {M : Nat → Int32}
end Load3
/-- one or several E are loaded -/
def LDW (U : Ud) (Y : Ts) (P : Nat) (f od : Nat → Nat) (a0 N0 i0 : Nat) : Prop := ∃ S0 K dp W mk M rk, LR U Y a0 N0 i0 od S0 K M rk ∧ LZx U S0 K (sfz Y a0 N0) dp W mk ∧ LC (U.1 15) Y P (NXW Y (U.1 15) P a0 N0 i0) a0 N0 i0 (sfz Y a0 N0) dp mk M ∧ sdx U W P S0 f mk (bcn mk)
def MLW (U : Ud) (Y : Ts) (P : Nat) (f od : Nat → Nat) : Prop := (U.1 21).1 = 0 ∨ ∃ a0 N0 i0, a0 + N0 ≤ (Y 0).1 ∧ i0 < (Y 11).1 ∧ LDW U Y P f od a0 N0 i0
section Ready3
variable {H : mu_H} {U V : Ud} {m d P a0 N0 i0 s v0 : Nat} {C : Nat → Nat} {Y : Ts} {f od : Nat → Nat} {es rs : Nat → Int32} {al : Int32} {kd : Bool} {F : Uf}
variable {Lk : List Bool}
end Ready3
