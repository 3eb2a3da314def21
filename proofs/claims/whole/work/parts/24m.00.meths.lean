/-! Printed by wip/whole/gen8.py: every method of the list is what its bytes and words say -/
def ev_mchk (N : ev_N) (M : ev_M) (ps : List Nat) : Bool := decide (N.2.2.1 = M.1) && decide (N.2.2.2.1 = M.2.1) && plainFor N.1 && Nat.ble M.1 16 && ev_hhok N.1.cls N.2.2.2.2.1 M.2.2.1 ps
theorem ev_mk {j : Nat} {N : ev_N} {M : ev_M} (ps : List Nat) (hN : ev_inf j = some N) (hM : ev_ms j = some M) (hp : ev_pl N.2.2.2.2.2 = some (ev_head N)) (hg : goodWord (ev_head N) = true) (hc : ev_mchk N M ps = true) (hk : M.2.2.2.all (ev_ok N.1.cls N.1.name N.2.1) = true) (hc2 : M.2.2.2.all (ev_okc N.1.cls) = true) : ev_Mok j := by
  intro N' nL ret hh code h1 h2
  cases hN.symm.trans h1
  cases hM.symm.trans h2
  simp only [ev_mchk, Bool.and_eq_true, decide_eq_true_eq] at hc
  obtain ⟨⟨⟨⟨c1, c2⟩, c4⟩, c5⟩, c6⟩ := hc
  exact ⟨c1, c2, List.mem_filter.mpr ⟨ev_pl_mem hp, hg⟩, c4, Nat.le_of_ble_eq_true c5, hk, hc2, ps, c6⟩
theorem ev_upto {P : Nat → Prop} {b : Nat} (h : ∀ j, 0 < j → j < b → P j) (hb : P b) : ∀ j, 0 < j → j < b + 1 → P j := by
  intro j h1 h2
  by_cases e : j = b
  · subst e; exact hb
  · exact h j h1 (by omega)
set_option maxRecDepth 100000 in
theorem ev_m1 : ev_Mok 1 := ev_mk (N := (⟨"PathProver", "<init>", "()V"⟩, prog_1_method_1_code, 1, none, [], 1045)) (M := (1, none, [], ev_b1)) [] rfl rfl rfl rfl (by decide +kernel) ev_k1 ev_cc1
set_option maxRecDepth 100000 in
theorem ev_m2 : ev_Mok 2 := ev_mk (N := (⟨"PathProver$Model", "<init>", "()V"⟩, prog_6_method_1_code, 1, none, [], 1053)) (M := (1, none, [], ev_b2)) [] rfl rfl rfl rfl (by decide +kernel) ev_k2 ev_cc2
set_option maxRecDepth 100000 in
theorem ev_m3 : ev_Mok 3 := ev_mk (N := (⟨"PathProver$Rows", "<init>", "(II)V"⟩, prog_10_method_1_code, 3, none, [], 1059)) (M := (3, none, [], ev_b3)) [] rfl rfl rfl rfl (by decide +kernel) ev_k3 ev_cc3
set_option maxRecDepth 100000 in
theorem ev_m4 : ev_Mok 4 := ev_mk (N := (⟨"PathProver$Parser", "<init>", "()V"⟩, prog_7_method_1_code, 1, none, [], 1192)) (M := (1, none, [], ev_b4)) [] rfl rfl rfl rfl (by decide +kernel) ev_k4 ev_cc4
set_option maxRecDepth 100000 in
theorem ev_m5 : ev_Mok 5 := ev_mk (N := (⟨"PathProver$Lexer", "<init>", "()V"⟩, prog_4_method_1_code, 2, none, [], 1198)) (M := (2, none, [], ev_b5)) [] rfl rfl rfl rfl (by decide +kernel) ev_k5 ev_cc5
set_option maxRecDepth 100000 in
theorem ev_m6 : ev_Mok 6 := ev_mk (N := (⟨"java/lang/String", "length", "()I"⟩, prog_33_method_54_code, 1, (some .int), [], 1206)) (M := (1, (some .int), [], ev_b6)) [] rfl rfl rfl rfl (by decide +kernel) ev_k6 ev_cc6
set_option maxRecDepth 100000 in
theorem ev_m7 : ev_Mok 7 := ev_mk (N := (⟨"java/lang/String", "coder", "()B"⟩, prog_33_method_152_code, 1, (some .byte), [], 1210)) (M := (1, (some .byte), [], ev_b7)) [] rfl rfl rfl rfl (by decide +kernel) ev_k7 ev_cc7
set_option maxRecDepth 100000 in
theorem ev_m8 : ev_Mok 8 := ev_mk (N := (⟨"java/lang/String", "charAt", "(I)C"⟩, prog_33_method_56_code, 2, (some .char), [], 1216)) (M := (2, (some .char), [], ev_b8)) [] rfl rfl rfl rfl (by decide +kernel) ev_k8 ev_cc8
set_option maxRecDepth 100000 in
theorem ev_m9 : ev_Mok 9 := ev_mk (N := (⟨"java/lang/String", "isLatin1", "()Z"⟩, prog_33_method_154_code, 1, (some .boolean), [], 1220)) (M := (1, (some .boolean), [], ev_b9)) [] rfl rfl rfl rfl (by decide +kernel) ev_k9 ev_cc9
set_option maxRecDepth 100000 in
theorem ev_m10 : ev_Mok 10 := ev_mk (N := (⟨"java/lang/StringLatin1", "charAt", "([BI)C"⟩, prog_35_method_2_code, 2, (some .char), [], 1223)) (M := (2, (some .char), [], ev_b10)) [] rfl rfl rfl rfl (by decide +kernel) ev_k10 ev_cc10
set_option maxRecDepth 100000 in
theorem ev_m11 : ev_Mok 11 := ev_mk (N := (⟨"java/lang/String", "checkIndex", "(II)V"⟩, prog_33_method_155_code, 2, none, [], 1226)) (M := (2, none, [], ev_b11)) [] rfl rfl rfl rfl (by decide +kernel) ev_k11 ev_cc11
set_option maxRecDepth 100000 in
theorem ev_m12 : ev_Mok 12 := ev_mk (N := (⟨"jdk/internal/util/Preconditions", "checkIndex", "(IILjava/util/function/BiFunction;)I"⟩, prog_42_method_11_code, 3, (some .int), [], 1231)) (M := (3, (some .int), [], ev_b12)) [] rfl rfl rfl rfl (by decide +kernel) ev_k12 ev_cc12
set_option maxRecDepth 100000 in
theorem ev_m13 : ev_Mok 13 := ev_mk (N := (⟨"PathProver$Judge", "<init>", "()V"⟩, prog_3_method_1_code, 1, none, [], 2092)) (M := (1, none, [], ev_b13)) [] rfl rfl rfl rfl (by decide +kernel) ev_k13 ev_cc13
set_option maxRecDepth 100000 in
theorem ev_m14 : ev_Mok 14 := ev_mk (N := (⟨"PathProver$Sound", "<init>", "()V"⟩, prog_12_method_1_code, 1, none, [], 2098)) (M := (1, none, [], ev_b14)) [] rfl rfl rfl rfl (by decide +kernel) ev_k14 ev_cc14
set_option maxRecDepth 100000 in
theorem ev_m15 : ev_Mok 15 := ev_mk (N := (⟨"PathProver$Space", "<init>", "()V"⟩, prog_13_method_1_code, 1, none, [], 2135)) (M := (1, none, [], ev_b15)) [] rfl rfl rfl rfl (by decide +kernel) ev_k15 ev_cc15
set_option maxRecDepth 100000 in
theorem ev_m16 : ev_Mok 16 := ev_mk (N := (⟨"PathProver$Machine", "<init>", "()V"⟩, prog_5_method_1_code, 2, none, [], 2141)) (M := (2, none, [], ev_b16)) [] rfl rfl rfl rfl (by decide +kernel) ev_k16 ev_cc16
set_option maxRecDepth 100000 in
theorem ev_m17 : ev_Mok 17 := ev_mk (N := (⟨"PathProver$Rows", "put", "(IIII)I"⟩, prog_10_method_4_code, 7, (some .int), [], 2148)) (M := (7, (some .int), [], ev_b17)) [] rfl rfl rfl rfl (by decide +kernel) ev_k17 ev_cc17
set_option maxRecDepth 100000 in
theorem ev_m18 : ev_Mok 18 := ev_mk (N := (⟨"PathProver$Sets", "<init>", "()V"⟩, prog_11_method_1_code, 1, none, [], 3004)) (M := (1, none, [], ev_b18)) [] rfl rfl rfl rfl (by decide +kernel) ev_k18 ev_cc18
set_option maxRecDepth 100000 in
theorem ev_m19 : ev_Mok 19 := ev_mk (N := (⟨"PathProver$Relation", "<init>", "(LPathProver$Space;)V"⟩, prog_9_method_1_code, 2, none, [], 3143)) (M := (2, none, [], ev_b19)) [] rfl rfl rfl rfl (by decide +kernel) ev_k19 ev_cc19
set_option maxRecDepth 100000 in
theorem ev_m20 : ev_Mok 20 := ev_mk (N := (⟨"PathProver$Graph", "<init>", "(LPathProver$Space;LPathProver$Relation;)V"⟩, prog_2_method_1_code, 3, none, [], 3231)) (M := (3, none, [], ev_b20)) [] rfl rfl rfl rfl (by decide +kernel) ev_k20 ev_cc20
set_option maxRecDepth 100000 in
theorem ev_m21 : ev_Mok 21 := ev_mk (N := (⟨"PathProver$Prover", "<init>", "(LPathProver$Space;LPathProver$Graph;)V"⟩, prog_8_method_1_code, 3, none, [], 4071)) (M := (3, none, [], ev_b21)) [] rfl rfl rfl rfl (by decide +kernel) ev_k21 ev_cc21
set_option maxRecDepth 100000 in
theorem ev_m22 : ev_Mok 22 := ev_mk (N := (⟨"PathProverModel", "<init>", "()V"⟩, prog_15_method_1_code, 1, none, [], 12190)) (M := (1, none, [], ev_b22)) [] rfl rfl rfl rfl (by decide +kernel) ev_k22 ev_cc22
set_option maxRecDepth 100000 in
theorem ev_m23 : ev_Mok 23 := ev_mk (N := (⟨"PathProverModel$Bits", "<init>", "()V"⟩, prog_16_method_1_code, 1, none, [], 13016)) (M := (1, none, [], ev_b23)) [] rfl rfl rfl rfl (by decide +kernel) ev_k23 ev_cc23
set_option maxRecDepth 100000 in
theorem ev_m24 : ev_Mok 24 := ev_mk (N := (⟨"PathProverLaw", "feed", "(LPathProver;IIIII[J)I"⟩, method_3_code, 8, (some .int), [((0), (16), (19), (13))], 4200)) (M := (8, (some .int), [(0, 16, 19, 3)], ev_b24)) [4201] rfl rfl rfl rfl (by decide +kernel) ev_k24 ev_cc24
set_option maxRecDepth 100000 in
theorem ev_m25 : ev_Mok 25 := ev_mk (N := (⟨"PathProver", "feed", "(IIIII)I"⟩, prog_1_method_2_code, 6, (some .int), [], 4205)) (M := (6, (some .int), [], ev_b25)) [] rfl rfl rfl rfl (by decide +kernel) ev_k25 ev_cc25
set_option maxRecDepth 100000 in
theorem ev_m26 : ev_Mok 26 := ev_mk (N := (⟨"PathProver", "write", "(I)V"⟩, prog_1_method_3_code, 3, none, [], 5045)) (M := (3, none, [], ev_b26)) [] rfl rfl rfl rfl (by decide +kernel) ev_k26 ev_cc26
set_option maxRecDepth 100000 in
theorem ev_m27 : ev_Mok 27 := ev_mk (N := (⟨"PathProverModel", "feed", "(IIIII)I"⟩, prog_15_method_108_code, 8, (some .int), [], 16127)) (M := (8, (some .int), [], ev_b27)) [] rfl rfl rfl rfl (by decide +kernel) ev_k27 ev_cc27
set_option maxRecDepth 100000 in
theorem ev_m28 : ev_Mok 28 := ev_mk (N := (⟨"PathProverModel", "thrown", "()I"⟩, prog_15_method_2_code, 1, (some .int), [], 13199)) (M := (1, (some .int), [], ev_b28)) [] rfl rfl rfl rfl (by decide +kernel) ev_k28 ev_cc28
set_option maxRecDepth 100000 in
theorem ev_m29 : ev_Mok 29 := ev_mk (N := (⟨"PathProverLaw", "end", "(LPathProver;I[J)I"⟩, method_4_code, 4, (some .int), [((0), (9), (12), (19))], 5048)) (M := (4, (some .int), [(0, 9, 12, 0)], ev_b29)) [5049] rfl rfl rfl rfl (by decide +kernel) ev_k29 ev_cc29
set_option maxRecDepth 100000 in
theorem ev_m30 : ev_Mok 30 := ev_mk (N := (⟨"PathProver", "end", "(I)I"⟩, prog_1_method_4_code, 2, (some .int), [], 5053)) (M := (2, (some .int), [], ev_b30)) [] rfl rfl rfl rfl (by decide +kernel) ev_k30 ev_cc30
set_option maxRecDepth 100000 in
theorem ev_m31 : ev_Mok 31 := ev_mk (N := (⟨"PathProverModel", "end", "(I)I"⟩, prog_15_method_109_code, 2, (some .int), [], 16135)) (M := (2, (some .int), [], ev_b31)) [] rfl rfl rfl rfl (by decide +kernel) ev_k31 ev_cc31
set_option maxRecDepth 100000 in
theorem ev_m32 : ev_Mok 32 := ev_mk (N := (⟨"PathProverModel", "fail", "(I)I"⟩, prog_15_method_3_code, 2, (some .int), [], 16131)) (M := (2, (some .int), [], ev_b32)) [] rfl rfl rfl rfl (by decide +kernel) ev_k32 ev_cc32
set_option maxRecDepth 100000 in
theorem ev_m33 : ev_Mok 33 := ev_mk (N := (⟨"PathProverLaw", "read", "(LPathProver;[J)I"⟩, method_5_code, 3, (some .int), [((0), (8), (11), (19)), ((0), (8), (14), (25)), ((0), (8), (17), (13))], 5071)) (M := (3, (some .int), [(0, 8, 11, 0), (0, 8, 14, 2), (0, 8, 17, 3)], ev_b33)) [5049, 5072, 4201] rfl rfl rfl rfl (by decide +kernel) ev_k33 ev_cc33
set_option maxRecDepth 100000 in
theorem ev_m34 : ev_Mok 34 := ev_mk (N := (⟨"PathProver", "read", "()I"⟩, prog_1_method_5_code, 4, (some .int), [], 5076)) (M := (4, (some .int), [], ev_b34)) [] rfl rfl rfl rfl (by decide +kernel) ev_k34 ev_cc34
set_option maxRecDepth 100000 in
theorem ev_m35 : ev_Mok 35 := ev_mk (N := (⟨"PathProver$Parser", "parse", "(LPathProver$Model;[BI)I"⟩, prog_7_method_2_code, 6, (some .int), [], 5080)) (M := (6, (some .int), [], ev_b35)) [] rfl rfl rfl rfl (by decide +kernel) ev_k35 ev_cc35
set_option maxRecDepth 100000 in
theorem ev_m36 : ev_Mok 36 := ev_mk (N := (⟨"PathProver$Model", "clear", "()V"⟩, prog_6_method_2_code, 1, none, [], 5084)) (M := (1, none, [], ev_b36)) [] rfl rfl rfl rfl (by decide +kernel) ev_k36 ev_cc36
set_option maxRecDepth 100000 in
theorem ev_m37 : ev_Mok 37 := ev_mk (N := (⟨"PathProver$Rows", "clear", "()V"⟩, prog_10_method_2_code, 1, none, [], 5088)) (M := (1, none, [], ev_b37)) [] rfl rfl rfl rfl (by decide +kernel) ev_k37 ev_cc37
set_option maxRecDepth 100000 in
theorem ev_m38 : ev_Mok 38 := ev_mk (N := (⟨"PathProver$Lexer", "scan", "([BI)V"⟩, prog_4_method_2_code, 5, none, [], 5093)) (M := (5, none, [], ev_b38)) [] rfl rfl rfl rfl (by decide +kernel) ev_k38 ev_cc38
set_option maxRecDepth 100000 in
theorem ev_m39 : ev_Mok 39 := ev_mk (N := (⟨"PathProver$Lexer", "forgetWords", "()V"⟩, prog_4_method_3_code, 3, none, [], 5098)) (M := (3, none, [], ev_b39)) [] rfl rfl rfl rfl (by decide +kernel) ev_k39 ev_cc39
set_option maxRecDepth 100000 in
theorem ev_m40 : ev_Mok 40 := ev_mk (N := (⟨"java/util/Arrays", "fill", "([II)V"⟩, prog_40_method_103_code, 4, none, [], 5101)) (M := (4, none, [], ev_b40)) [] rfl rfl rfl rfl (by decide +kernel) ev_k40 ev_cc40
set_option maxRecDepth 100000 in
theorem ev_m41 : ev_Mok 41 := ev_mk (N := (⟨"PathProver$Lexer", "numberOf", "([BII)I"⟩, prog_4_method_10_code, 8, (some .int), [], 5105)) (M := (8, (some .int), [], ev_b41)) [] rfl rfl rfl rfl (by decide +kernel) ev_k41 ev_cc41
set_option maxRecDepth 100000 in
theorem ev_m42 : ev_Mok 42 := ev_mk (N := (⟨"PathProver$Lexer", "keepWord", "([BIII)I"⟩, prog_4_method_12_code, 7, (some .int), [], 5117)) (M := (7, (some .int), [], ev_b42)) [] rfl rfl rfl rfl (by decide +kernel) ev_k42 ev_cc42
set_option maxRecDepth 100000 in
theorem ev_m43 : ev_Mok 43 := ev_mk (N := (⟨"PathProver$Lexer", "skipBlanks", "()V"⟩, prog_4_method_4_code, 3, none, [], 5124)) (M := (3, none, [], ev_b43)) [] rfl rfl rfl rfl (by decide +kernel) ev_k43 ev_cc43
set_option maxRecDepth 100000 in
theorem ev_m44 : ev_Mok 44 := ev_mk (N := (⟨"PathProver$Parser", "advance", "()V"⟩, prog_7_method_4_code, 1, none, [], 5207)) (M := (1, none, [], ev_b44)) [] rfl rfl rfl rfl (by decide +kernel) ev_k44 ev_cc44
set_option maxRecDepth 100000 in
theorem ev_m45 : ev_Mok 45 := ev_mk (N := (⟨"java/lang/Math", "min", "(II)I"⟩, prog_31_method_69_code, 2, (some .int), [], 2161)) (M := (2, (some .int), [], ev_b45)) [] rfl rfl rfl rfl (by decide +kernel) ev_k45 ev_cc45
set_option maxRecDepth 100000 in
theorem ev_m46 : ev_Mok 46 := ev_mk (N := (⟨"PathProver$Rows", "get", "(II)I"⟩, prog_10_method_5_code, 3, (some .int), [], 5113)) (M := (3, (some .int), [], ev_b46)) [] rfl rfl rfl rfl (by decide +kernel) ev_k46 ev_cc46
set_option maxRecDepth 100000 in
theorem ev_m47 : ev_Mok 47 := ev_mk (N := (⟨"PathProver$Parser", "module", "()Z"⟩, prog_7_method_6_code, 1, (some .boolean), [], 5214)) (M := (1, (some .boolean), [], ev_b47)) [] rfl rfl rfl rfl (by decide +kernel) ev_k47 ev_cc47
set_option maxRecDepth 100000 in
theorem ev_m48 : ev_Mok 48 := ev_mk (N := (⟨"PathProver$Parser", "take", "(I)Z"⟩, prog_7_method_5_code, 2, (some .boolean), [], 5218)) (M := (2, (some .boolean), [], ev_b48)) [] rfl rfl rfl rfl (by decide +kernel) ev_k48 ev_cc48
set_option maxRecDepth 100000 in
theorem ev_m49 : ev_Mok 49 := ev_mk (N := (⟨"PathProverModel", "read", "()I"⟩, prog_15_method_91_code, 3, (some .int), [((15), (86), (89), (291)), ((15), (86), (106), (450)), ((15), (86), (115), (453))], 13203)) (M := (3, (some .int), [(15, 86, 89, 0), (15, 86, 106, 2), (15, 86, 115, 3)], ev_b49)) [13204, 13205, 13206] rfl rfl rfl rfl (by decide +kernel) ev_k49 ev_cc49
set_option maxRecDepth 100000 in
theorem ev_m50 : ev_Mok 50 := ev_mk (N := (⟨"PathProverModel", "parse", "()V"⟩, prog_15_method_37_code, 3, none, [], 13210)) (M := (3, none, [], ev_b50)) [] rfl rfl rfl rfl (by decide +kernel) ev_k50 ev_cc50
set_option maxRecDepth 100000 in
theorem ev_m51 : ev_Mok 51 := ev_mk (N := (⟨"PathProverModel", "advance", "()V"⟩, prog_15_method_7_code, 4, none, [], 13214)) (M := (4, none, [], ev_b51)) [] rfl rfl rfl rfl (by decide +kernel) ev_k51 ev_cc51
set_option maxRecDepth 100000 in
theorem ev_m52 : ev_Mok 52 := ev_mk (N := (⟨"PathProverModel", "skip", "()V"⟩, prog_15_method_6_code, 2, none, [], 13218)) (M := (2, none, [], ev_b52)) [] rfl rfl rfl rfl (by decide +kernel) ev_k52 ev_cc52
set_option maxRecDepth 100000 in
theorem ev_m53 : ev_Mok 53 := ev_mk (N := (⟨"PathProverModel", "module", "()LPathProverModel$Module;"⟩, prog_15_method_36_code, 5, (some (.object "PathProverModel$Module")), [], 14010)) (M := (5, (some (.object "PathProverModel$Module")), [], ev_b53)) [] rfl rfl rfl rfl (by decide +kernel) ev_k53 ev_cc53
set_option maxRecDepth 100000 in
theorem ev_m54 : ev_Mok 54 := ev_mk (N := (⟨"PathProverModel", "expect", "(Ljava/lang/String;)V"⟩, prog_15_method_12_code, 3, none, [], 14014)) (M := (3, none, [], ev_b54)) [] rfl rfl rfl rfl (by decide +kernel) ev_k54 ev_cc54
set_option maxRecDepth 100000 in
theorem ev_m55 : ev_Mok 55 := ev_mk (N := (⟨"PathProverModel", "is", "(Ljava/lang/String;)Z"⟩, prog_15_method_8_code, 2, (some .boolean), [], 14018)) (M := (2, (some .boolean), [], ev_b55)) [] rfl rfl rfl rfl (by decide +kernel) ev_k55 ev_cc55
set_option maxRecDepth 100000 in
theorem ev_m56 : ev_Mok 56 := ev_mk (N := (⟨"PathProverModel", "can", "(Z)Z"⟩, prog_15_method_11_code, 2, (some .boolean), [], 14030)) (M := (2, (some .boolean), [], ev_b56)) [] rfl rfl rfl rfl (by decide +kernel) ev_k56 ev_cc56
set_option maxRecDepth 100000 in
theorem ev_m57 : ev_Mok 57 := ev_mk (N := (⟨"PathProver", "place", "()I"⟩, prog_1_method_6_code, 1, (some .int), [], 4197)) (M := (1, (some .int), [], ev_b57)) [] rfl rfl rfl rfl (by decide +kernel) ev_k57 ev_cc57
set_option maxRecDepth 100000 in
theorem ev_m58 : ev_Mok 58 := ev_mk (N := (⟨"PathProverModel", "place", "()I"⟩, prog_15_method_110_code, 1, (some .int), [], 16139)) (M := (1, (some .int), [], ev_b58)) [] rfl rfl rfl rfl (by decide +kernel) ev_k58 ev_cc58
set_option maxRecDepth 100000 in
theorem ev_m59 : ev_Mok 59 := ev_mk (N := (⟨"PathProverLaw", "check", "(LPathProver;I[J)I"⟩, method_6_code, 4, (some .int), [((0), (16), (19), (19)), ((0), (16), (22), (31))], 7141)) (M := (4, (some .int), [(0, 16, 19, 0), (0, 16, 22, 1)], ev_b59)) [5049, 7142] rfl rfl rfl rfl (by decide +kernel) ev_k59 ev_cc59
