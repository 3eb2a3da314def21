/-! Printed by wip/p1/gen2.py: every method of the list is what its bytes and words say -/
def ev_mchk (N : ev_N) (M : ev_M) (ps : List Nat) : Bool := decide (N.2.2.1 = M.1) && decide (N.2.2.2.1 = M.2.1) && ev_hw N.2.2.2.2.2 (ev_head N) && plainFor N.1 && Nat.ble M.1 40 && ev_hhok N.1.cls N.2.2.2.2.1 M.2.2.1 ps
theorem ev_mk {j : Nat} {N : ev_N} {M : ev_M} (ps : List Nat) (hN : ev_inf j = some N) (hM : ev_ms j = some M) (hc : ev_mchk N M ps = true) (hk : M.2.2.2.all (ev_ok N.1.cls N.1.name N.2.1) = true) (hc2 : M.2.2.2.all (ev_okc N.1.cls) = true) : ev_Mok j := by
  intro N' nL ret hh code h1 h2
  cases hN.symm.trans h1
  cases hM.symm.trans h2
  simp only [ev_mchk, Bool.and_eq_true, decide_eq_true_eq] at hc
  obtain ⟨⟨⟨⟨⟨c1, c2⟩, c3⟩, c4⟩, c5⟩, c6⟩ := hc
  exact ⟨c1, c2, ev_hw_mem c3, c4, Nat.le_of_ble_eq_true c5, hk, hc2, ps, c6⟩
theorem ev_upto {P : Nat → Prop} {b : Nat} (h : ∀ j, 0 < j → j < b → P j) (hb : P b) : ∀ j, 0 < j → j < b + 1 → P j := by
  intro j h1 h2
  by_cases e : j = b
  · subst e; exact hb
  · exact h j h1 (by omega)
set_option maxRecDepth 100000 in
theorem ev_m1 : ev_Mok 1 := ev_mk (N := (⟨"PathProver", "<init>", "()V"⟩, prog_1_method_1_code, 1, none, [], 1045)) (M := (1, none, [], ev_b1)) [] rfl rfl (by decide +kernel) ev_k1 ev_cc1
set_option maxRecDepth 100000 in
theorem ev_m2 : ev_Mok 2 := ev_mk (N := (⟨"PathProver$Model", "<init>", "()V"⟩, prog_6_method_1_code, 1, none, [], 1053)) (M := (1, none, [], ev_b2)) [] rfl rfl (by decide +kernel) ev_k2 ev_cc2
set_option maxRecDepth 100000 in
theorem ev_m3 : ev_Mok 3 := ev_mk (N := (⟨"PathProver$Rows", "<init>", "(II)V"⟩, prog_10_method_1_code, 3, none, [], 1059)) (M := (3, none, [], ev_b3)) [] rfl rfl (by decide +kernel) ev_k3 ev_cc3
set_option maxRecDepth 100000 in
theorem ev_m4 : ev_Mok 4 := ev_mk (N := (⟨"PathProver$Parser", "<init>", "()V"⟩, prog_7_method_1_code, 1, none, [], 1192)) (M := (1, none, [], ev_b4)) [] rfl rfl (by decide +kernel) ev_k4 ev_cc4
set_option maxRecDepth 100000 in
theorem ev_m5 : ev_Mok 5 := ev_mk (N := (⟨"PathProver$Lexer", "<init>", "()V"⟩, prog_4_method_1_code, 2, none, [], 1198)) (M := (2, none, [], ev_b5)) [] rfl rfl (by decide +kernel) ev_k5 ev_cc5
set_option maxRecDepth 100000 in
theorem ev_m6 : ev_Mok 6 := ev_mk (N := (⟨"java/lang/String", "length", "()I"⟩, prog_33_method_54_code, 1, (some .int), [], 1206)) (M := (1, (some .int), [], ev_b6)) [] rfl rfl (by decide +kernel) ev_k6 ev_cc6
set_option maxRecDepth 100000 in
theorem ev_m7 : ev_Mok 7 := ev_mk (N := (⟨"java/lang/String", "coder", "()B"⟩, prog_33_method_152_code, 1, (some .byte), [], 1210)) (M := (1, (some .byte), [], ev_b7)) [] rfl rfl (by decide +kernel) ev_k7 ev_cc7
set_option maxRecDepth 100000 in
theorem ev_m8 : ev_Mok 8 := ev_mk (N := (⟨"java/lang/String", "charAt", "(I)C"⟩, prog_33_method_56_code, 2, (some .char), [], 1216)) (M := (2, (some .char), [], ev_b8)) [] rfl rfl (by decide +kernel) ev_k8 ev_cc8
set_option maxRecDepth 100000 in
theorem ev_m9 : ev_Mok 9 := ev_mk (N := (⟨"java/lang/String", "isLatin1", "()Z"⟩, prog_33_method_154_code, 1, (some .boolean), [], 1220)) (M := (1, (some .boolean), [], ev_b9)) [] rfl rfl (by decide +kernel) ev_k9 ev_cc9
set_option maxRecDepth 100000 in
theorem ev_m10 : ev_Mok 10 := ev_mk (N := (⟨"java/lang/StringLatin1", "charAt", "([BI)C"⟩, prog_35_method_2_code, 2, (some .char), [], 1223)) (M := (2, (some .char), [], ev_b10)) [] rfl rfl (by decide +kernel) ev_k10 ev_cc10
set_option maxRecDepth 100000 in
theorem ev_m11 : ev_Mok 11 := ev_mk (N := (⟨"java/lang/String", "checkIndex", "(II)V"⟩, prog_33_method_155_code, 2, none, [], 1226)) (M := (2, none, [], ev_b11)) [] rfl rfl (by decide +kernel) ev_k11 ev_cc11
set_option maxRecDepth 100000 in
theorem ev_m12 : ev_Mok 12 := ev_mk (N := (⟨"jdk/internal/util/Preconditions", "checkIndex", "(IILjava/util/function/BiFunction;)I"⟩, prog_42_method_11_code, 3, (some .int), [], 1231)) (M := (3, (some .int), [], ev_b12)) [] rfl rfl (by decide +kernel) ev_k12 ev_cc12
set_option maxRecDepth 100000 in
theorem ev_m13 : ev_Mok 13 := ev_mk (N := (⟨"PathProver$Judge", "<init>", "()V"⟩, prog_3_method_1_code, 1, none, [], 2092)) (M := (1, none, [], ev_b13)) [] rfl rfl (by decide +kernel) ev_k13 ev_cc13
set_option maxRecDepth 100000 in
theorem ev_m14 : ev_Mok 14 := ev_mk (N := (⟨"PathProver$Sound", "<init>", "()V"⟩, prog_12_method_1_code, 1, none, [], 2098)) (M := (1, none, [], ev_b14)) [] rfl rfl (by decide +kernel) ev_k14 ev_cc14
set_option maxRecDepth 100000 in
theorem ev_m15 : ev_Mok 15 := ev_mk (N := (⟨"PathProver$Space", "<init>", "()V"⟩, prog_13_method_1_code, 1, none, [], 2135)) (M := (1, none, [], ev_b15)) [] rfl rfl (by decide +kernel) ev_k15 ev_cc15
set_option maxRecDepth 100000 in
theorem ev_m16 : ev_Mok 16 := ev_mk (N := (⟨"PathProver$Machine", "<init>", "()V"⟩, prog_5_method_1_code, 2, none, [], 2141)) (M := (2, none, [], ev_b16)) [] rfl rfl (by decide +kernel) ev_k16 ev_cc16
set_option maxRecDepth 100000 in
theorem ev_m17 : ev_Mok 17 := ev_mk (N := (⟨"PathProver$Rows", "put", "(IIII)I"⟩, prog_10_method_4_code, 7, (some .int), [], 2148)) (M := (7, (some .int), [], ev_b17)) [] rfl rfl (by decide +kernel) ev_k17 ev_cc17
set_option maxRecDepth 100000 in
theorem ev_m18 : ev_Mok 18 := ev_mk (N := (⟨"PathProver$Sets", "<init>", "()V"⟩, prog_11_method_1_code, 1, none, [], 3002)) (M := (1, none, [], ev_b18)) [] rfl rfl (by decide +kernel) ev_k18 ev_cc18
set_option maxRecDepth 100000 in
theorem ev_m19 : ev_Mok 19 := ev_mk (N := (⟨"PathProver$Relation", "<init>", "(LPathProver$Space;)V"⟩, prog_9_method_1_code, 2, none, [], 3133)) (M := (2, none, [], ev_b19)) [] rfl rfl (by decide +kernel) ev_k19 ev_cc19
set_option maxRecDepth 100000 in
theorem ev_m20 : ev_Mok 20 := ev_mk (N := (⟨"PathProver$Graph", "<init>", "(LPathProver$Space;LPathProver$Relation;)V"⟩, prog_2_method_1_code, 3, none, [], 3220)) (M := (3, none, [], ev_b20)) [] rfl rfl (by decide +kernel) ev_k20 ev_cc20
set_option maxRecDepth 100000 in
theorem ev_m21 : ev_Mok 21 := ev_mk (N := (⟨"PathProver$Prover", "<init>", "(LPathProver$Space;LPathProver$Graph;)V"⟩, prog_8_method_1_code, 3, none, [], 4060)) (M := (3, none, [], ev_b21)) [] rfl rfl (by decide +kernel) ev_k21 ev_cc21
set_option maxRecDepth 100000 in
theorem ev_m22 : ev_Mok 22 := ev_mk (N := (⟨"PathProverModel", "<init>", "()V"⟩, prog_15_method_1_code, 1, none, [], 12093)) (M := (1, none, [], ev_b22)) [] rfl rfl (by decide +kernel) ev_k22 ev_cc22
set_option maxRecDepth 100000 in
theorem ev_m23 : ev_Mok 23 := ev_mk (N := (⟨"PathProverModel$Bits", "<init>", "()V"⟩, prog_16_method_1_code, 1, none, [], 12159)) (M := (1, none, [], ev_b23)) [] rfl rfl (by decide +kernel) ev_k23 ev_cc23
set_option maxRecDepth 100000 in
theorem ev_m24 : ev_Mok 24 := ev_mk (N := (⟨"PathProverLaw", "feed", "(LPathProver;IIIII[J)I"⟩, method_3_code, 8, (some .int), [((0), (16), (19), (13))], 4189)) (M := (8, (some .int), [(0, 16, 19, 3)], ev_b24)) [4190] rfl rfl (by decide +kernel) ev_k24 ev_cc24
set_option maxRecDepth 100000 in
theorem ev_m25 : ev_Mok 25 := ev_mk (N := (⟨"PathProver", "feed", "(IIIII)I"⟩, prog_1_method_2_code, 6, (some .int), [], 4194)) (M := (6, (some .int), [], ev_b25)) [] rfl rfl (by decide +kernel) ev_k25 ev_cc25
set_option maxRecDepth 100000 in
theorem ev_m26 : ev_Mok 26 := ev_mk (N := (⟨"PathProver", "write", "(I)V"⟩, prog_1_method_3_code, 3, none, [], 5034)) (M := (3, none, [], ev_b26)) [] rfl rfl (by decide +kernel) ev_k26 ev_cc26
set_option maxRecDepth 100000 in
theorem ev_m27 : ev_Mok 27 := ev_mk (N := (⟨"PathProverModel", "feed", "(IIIII)I"⟩, prog_15_method_108_code, 8, (some .int), [], 16030)) (M := (8, (some .int), [], ev_b27)) [] rfl rfl (by decide +kernel) ev_k27 ev_cc27
set_option maxRecDepth 100000 in
theorem ev_m28 : ev_Mok 28 := ev_mk (N := (⟨"PathProverModel", "thrown", "()I"⟩, prog_15_method_2_code, 1, (some .int), [], 13102)) (M := (1, (some .int), [], ev_b28)) [] rfl rfl (by decide +kernel) ev_k28 ev_cc28
set_option maxRecDepth 100000 in
theorem ev_m29 : ev_Mok 29 := ev_mk (N := (⟨"PathProverLaw", "end", "(LPathProver;I[J)I"⟩, method_4_code, 4, (some .int), [((0), (9), (12), (19))], 5037)) (M := (4, (some .int), [(0, 9, 12, 0)], ev_b29)) [5038] rfl rfl (by decide +kernel) ev_k29 ev_cc29
set_option maxRecDepth 100000 in
theorem ev_m30 : ev_Mok 30 := ev_mk (N := (⟨"PathProver", "end", "(I)I"⟩, prog_1_method_4_code, 2, (some .int), [], 5042)) (M := (2, (some .int), [], ev_b30)) [] rfl rfl (by decide +kernel) ev_k30 ev_cc30
set_option maxRecDepth 100000 in
theorem ev_m31 : ev_Mok 31 := ev_mk (N := (⟨"PathProverModel", "end", "(I)I"⟩, prog_15_method_109_code, 2, (some .int), [], 16038)) (M := (2, (some .int), [], ev_b31)) [] rfl rfl (by decide +kernel) ev_k31 ev_cc31
set_option maxRecDepth 100000 in
theorem ev_m32 : ev_Mok 32 := ev_mk (N := (⟨"PathProverModel", "fail", "(I)I"⟩, prog_15_method_3_code, 2, (some .int), [], 16034)) (M := (2, (some .int), [], ev_b32)) [] rfl rfl (by decide +kernel) ev_k32 ev_cc32
set_option maxRecDepth 100000 in
theorem ev_m33 : ev_Mok 33 := ev_mk (N := (⟨"PathProverLaw", "read", "(LPathProver;[J)I"⟩, method_5_code, 3, (some .int), [((0), (8), (11), (19)), ((0), (8), (14), (25)), ((0), (8), (17), (13))], 5060)) (M := (3, (some .int), [(0, 8, 11, 0), (0, 8, 14, 2), (0, 8, 17, 3)], ev_b33)) [5038, 5061, 4190] rfl rfl (by decide +kernel) ev_k33 ev_cc33
set_option maxRecDepth 100000 in
theorem ev_m34 : ev_Mok 34 := ev_mk (N := (⟨"PathProver", "read", "()I"⟩, prog_1_method_5_code, 4, (some .int), [], 5065)) (M := (4, (some .int), [], ev_b34)) [] rfl rfl (by decide +kernel) ev_k34 ev_cc34
set_option maxRecDepth 100000 in
theorem ev_m35 : ev_Mok 35 := ev_mk (N := (⟨"PathProver$Parser", "parse", "(LPathProver$Model;[BI)I"⟩, prog_7_method_2_code, 6, (some .int), [], 5069)) (M := (6, (some .int), [], ev_b35)) [] rfl rfl (by decide +kernel) ev_k35 ev_cc35
set_option maxRecDepth 100000 in
theorem ev_m36 : ev_Mok 36 := ev_mk (N := (⟨"PathProver$Model", "clear", "()V"⟩, prog_6_method_2_code, 1, none, [], 5073)) (M := (1, none, [], ev_b36)) [] rfl rfl (by decide +kernel) ev_k36 ev_cc36
set_option maxRecDepth 100000 in
theorem ev_m37 : ev_Mok 37 := ev_mk (N := (⟨"PathProver$Rows", "clear", "()V"⟩, prog_10_method_2_code, 1, none, [], 5077)) (M := (1, none, [], ev_b37)) [] rfl rfl (by decide +kernel) ev_k37 ev_cc37
set_option maxRecDepth 100000 in
theorem ev_m38 : ev_Mok 38 := ev_mk (N := (⟨"PathProver$Lexer", "scan", "([BI)V"⟩, prog_4_method_2_code, 5, none, [], 5082)) (M := (5, none, [], ev_b38)) [] rfl rfl (by decide +kernel) ev_k38 ev_cc38
set_option maxRecDepth 100000 in
theorem ev_m39 : ev_Mok 39 := ev_mk (N := (⟨"PathProver$Lexer", "forgetWords", "()V"⟩, prog_4_method_3_code, 3, none, [], 5087)) (M := (3, none, [], ev_b39)) [] rfl rfl (by decide +kernel) ev_k39 ev_cc39
set_option maxRecDepth 100000 in
theorem ev_m40 : ev_Mok 40 := ev_mk (N := (⟨"java/util/Arrays", "fill", "([II)V"⟩, prog_40_method_103_code, 4, none, [], 5090)) (M := (4, none, [], ev_b40)) [] rfl rfl (by decide +kernel) ev_k40 ev_cc40
set_option maxRecDepth 100000 in
theorem ev_m41 : ev_Mok 41 := ev_mk (N := (⟨"PathProver$Lexer", "numberOf", "([BII)I"⟩, prog_4_method_10_code, 8, (some .int), [], 5094)) (M := (8, (some .int), [], ev_b41)) [] rfl rfl (by decide +kernel) ev_k41 ev_cc41
set_option maxRecDepth 100000 in
theorem ev_m42 : ev_Mok 42 := ev_mk (N := (⟨"PathProver$Lexer", "keepWord", "([BIII)I"⟩, prog_4_method_12_code, 7, (some .int), [], 5106)) (M := (7, (some .int), [], ev_b42)) [] rfl rfl (by decide +kernel) ev_k42 ev_cc42
set_option maxRecDepth 100000 in
theorem ev_m43 : ev_Mok 43 := ev_mk (N := (⟨"PathProver$Lexer", "skipBlanks", "()V"⟩, prog_4_method_4_code, 3, none, [], 5113)) (M := (3, none, [], ev_b43)) [] rfl rfl (by decide +kernel) ev_k43 ev_cc43
set_option maxRecDepth 100000 in
theorem ev_m44 : ev_Mok 44 := ev_mk (N := (⟨"PathProver$Parser", "advance", "()V"⟩, prog_7_method_4_code, 1, none, [], 5196)) (M := (1, none, [], ev_b44)) [] rfl rfl (by decide +kernel) ev_k44 ev_cc44
set_option maxRecDepth 100000 in
theorem ev_m45 : ev_Mok 45 := ev_mk (N := (⟨"java/lang/Math", "min", "(II)I"⟩, prog_31_method_69_code, 2, (some .int), [], 2161)) (M := (2, (some .int), [], ev_b45)) [] rfl rfl (by decide +kernel) ev_k45 ev_cc45
set_option maxRecDepth 100000 in
theorem ev_m46 : ev_Mok 46 := ev_mk (N := (⟨"PathProver$Rows", "get", "(II)I"⟩, prog_10_method_5_code, 3, (some .int), [], 5102)) (M := (3, (some .int), [], ev_b46)) [] rfl rfl (by decide +kernel) ev_k46 ev_cc46
set_option maxRecDepth 100000 in
theorem ev_m47 : ev_Mok 47 := ev_mk (N := (⟨"PathProver$Parser", "module", "()Z"⟩, prog_7_method_6_code, 1, (some .boolean), [], 5203)) (M := (1, (some .boolean), [], ev_b47)) [] rfl rfl (by decide +kernel) ev_k47 ev_cc47
set_option maxRecDepth 100000 in
theorem ev_m48 : ev_Mok 48 := ev_mk (N := (⟨"PathProver$Parser", "take", "(I)Z"⟩, prog_7_method_5_code, 2, (some .boolean), [], 5207)) (M := (2, (some .boolean), [], ev_b48)) [] rfl rfl (by decide +kernel) ev_k48 ev_cc48
set_option maxRecDepth 100000 in
theorem ev_m49 : ev_Mok 49 := ev_mk (N := (⟨"PathProverModel", "read", "()I"⟩, prog_15_method_91_code, 3, (some .int), [((15), (86), (89), (291)), ((15), (86), (106), (450)), ((15), (86), (115), (453))], 13106)) (M := (3, (some .int), [(15, 86, 89, 0), (15, 86, 106, 2), (15, 86, 115, 3)], ev_b49)) [13107, 13108, 13109] rfl rfl (by decide +kernel) ev_k49 ev_cc49
set_option maxRecDepth 100000 in
theorem ev_m50 : ev_Mok 50 := ev_mk (N := (⟨"PathProverModel", "parse", "()V"⟩, prog_15_method_37_code, 3, none, [], 13113)) (M := (3, none, [], ev_b50)) [] rfl rfl (by decide +kernel) ev_k50 ev_cc50
set_option maxRecDepth 100000 in
theorem ev_m51 : ev_Mok 51 := ev_mk (N := (⟨"PathProverModel", "advance", "()V"⟩, prog_15_method_7_code, 4, none, [], 13117)) (M := (4, none, [], ev_b51)) [] rfl rfl (by decide +kernel) ev_k51 ev_cc51
set_option maxRecDepth 100000 in
theorem ev_m52 : ev_Mok 52 := ev_mk (N := (⟨"PathProverModel", "skip", "()V"⟩, prog_15_method_6_code, 2, none, [], 13121)) (M := (2, none, [], ev_b52)) [] rfl rfl (by decide +kernel) ev_k52 ev_cc52
set_option maxRecDepth 100000 in
theorem ev_m53 : ev_Mok 53 := ev_mk (N := (⟨"PathProverModel", "module", "()LPathProverModel$Module;"⟩, prog_15_method_36_code, 5, (some (.object "PathProverModel$Module")), [], 13153)) (M := (5, (some (.object "PathProverModel$Module")), [], ev_b53)) [] rfl rfl (by decide +kernel) ev_k53 ev_cc53
set_option maxRecDepth 100000 in
theorem ev_m54 : ev_Mok 54 := ev_mk (N := (⟨"PathProverModel", "expect", "(Ljava/lang/String;)V"⟩, prog_15_method_12_code, 3, none, [], 13157)) (M := (3, none, [], ev_b54)) [] rfl rfl (by decide +kernel) ev_k54 ev_cc54
set_option maxRecDepth 100000 in
theorem ev_m55 : ev_Mok 55 := ev_mk (N := (⟨"PathProverModel", "is", "(Ljava/lang/String;)Z"⟩, prog_15_method_8_code, 2, (some .boolean), [], 13161)) (M := (2, (some .boolean), [], ev_b55)) [] rfl rfl (by decide +kernel) ev_k55 ev_cc55
set_option maxRecDepth 100000 in
theorem ev_m56 : ev_Mok 56 := ev_mk (N := (⟨"PathProverModel", "can", "(Z)Z"⟩, prog_15_method_11_code, 2, (some .boolean), [], 13173)) (M := (2, (some .boolean), [], ev_b56)) [] rfl rfl (by decide +kernel) ev_k56 ev_cc56
set_option maxRecDepth 100000 in
theorem ev_m57 : ev_Mok 57 := ev_mk (N := (⟨"PathProver", "place", "()I"⟩, prog_1_method_6_code, 1, (some .int), [], 4186)) (M := (1, (some .int), [], ev_b57)) [] rfl rfl (by decide +kernel) ev_k57 ev_cc57
set_option maxRecDepth 100000 in
theorem ev_m58 : ev_Mok 58 := ev_mk (N := (⟨"PathProverModel", "place", "()I"⟩, prog_15_method_110_code, 1, (some .int), [], 16042)) (M := (1, (some .int), [], ev_b58)) [] rfl rfl (by decide +kernel) ev_k58 ev_cc58
set_option maxRecDepth 100000 in
theorem ev_m59 : ev_Mok 59 := ev_mk (N := (⟨"PathProverLaw", "check", "(LPathProver;I[J)I"⟩, method_6_code, 4, (some .int), [((0), (16), (19), (19)), ((0), (16), (22), (31))], 7130)) (M := (4, (some .int), [(0, 16, 19, 0), (0, 16, 22, 1)], ev_b59)) [5038, 7131] rfl rfl (by decide +kernel) ev_k59 ev_cc59
set_option maxRecDepth 100000 in
theorem ev_m60 : ev_Mok 60 := ev_mk (N := (⟨"PathProver", "check", "(I)Z"⟩, prog_1_method_7_code, 2, (some .boolean), [], 7135)) (M := (2, (some .boolean), [], ev_b60)) [] rfl rfl (by decide +kernel) ev_k60 ev_cc60
set_option maxRecDepth 100000 in
theorem ev_m61 : ev_Mok 61 := ev_mk (N := (⟨"PathProver", "needNumber", "(II)V"⟩, prog_1_method_22_code, 3, none, [], 7139)) (M := (3, none, [], ev_b61)) [] rfl rfl (by decide +kernel) ev_k61 ev_cc61
set_option maxRecDepth 100000 in
theorem ev_m62 : ev_Mok 62 := ev_mk (N := (⟨"PathProverModel", "check", "(I)Z"⟩, prog_15_method_111_code, 4, (some .boolean), [], 16046)) (M := (4, (some .boolean), [], ev_b62)) [] rfl rfl (by decide +kernel) ev_k62 ev_cc62
set_option maxRecDepth 100000 in
theorem ev_m63 : ev_Mok 63 := ev_mk (N := (⟨"PathProverModel", "noSpec", "(I)Z"⟩, prog_15_method_107_code, 2, (some .boolean), [], 16050)) (M := (2, (some .boolean), [], ev_b63)) [] rfl rfl (by decide +kernel) ev_k63 ev_cc63
set_option maxRecDepth 100000 in
theorem ev_m64 : ev_Mok 64 := ev_mk (N := (⟨"PathProver", "needModel", "()V"⟩, prog_1_method_24_code, 1, none, [], 7143)) (M := (1, none, [], ev_b64)) [] rfl rfl (by decide +kernel) ev_k64 ev_cc64
set_option maxRecDepth 100000 in
theorem ev_m65 : ev_Mok 65 := ev_mk (N := (⟨"PathProverLaw", "states", "(LPathProver;II[J)I"⟩, method_7_code, 5, (some .int), [((0), (10), (13), (19)), ((0), (10), (17), (31))], 11178)) (M := (5, (some .int), [(0, 10, 13, 0), (0, 10, 17, 1)], ev_b65)) [5038, 7131] rfl rfl (by decide +kernel) ev_k65 ev_cc65
set_option maxRecDepth 100000 in
theorem ev_m66 : ev_Mok 66 := ev_mk (N := (⟨"PathProver", "states", "(II)I"⟩, prog_1_method_8_code, 3, (some .int), [], 11182)) (M := (3, (some .int), [], ev_b66)) [] rfl rfl (by decide +kernel) ev_k66 ev_cc66
set_option maxRecDepth 100000 in
theorem ev_m67 : ev_Mok 67 := ev_mk (N := (⟨"PathProverModel", "states", "(II)I"⟩, prog_15_method_112_code, 7, (some .int), [], 16090)) (M := (7, (some .int), [], ev_b67)) [] rfl rfl (by decide +kernel) ev_k67 ev_cc67
set_option maxRecDepth 100000 in
theorem ev_m68 : ev_Mok 68 := ev_mk (N := (⟨"PathProverLaw", "count", "(LPathProver;I[J)I"⟩, method_8_code, 4, (some .int), [((0), (9), (12), (19)), ((0), (9), (15), (31))], 11201)) (M := (4, (some .int), [(0, 9, 12, 0), (0, 9, 15, 1)], ev_b68)) [5038, 7131] rfl rfl (by decide +kernel) ev_k68 ev_cc68
set_option maxRecDepth 100000 in
theorem ev_m69 : ev_Mok 69 := ev_mk (N := (⟨"PathProver", "count", "(I)I"⟩, prog_1_method_9_code, 2, (some .int), [], 11205)) (M := (2, (some .int), [], ev_b69)) [] rfl rfl (by decide +kernel) ev_k69 ev_cc69
set_option maxRecDepth 100000 in
theorem ev_m70 : ev_Mok 70 := ev_mk (N := (⟨"PathProverModel", "count", "(I)I"⟩, prog_15_method_113_code, 2, (some .int), [], 16098)) (M := (2, (some .int), [], ev_b70)) [] rfl rfl (by decide +kernel) ev_k70 ev_cc70
set_option maxRecDepth 100000 in
theorem ev_m71 : ev_Mok 71 := ev_mk (N := (⟨"PathProverLaw", "show", "(LPathProver;I[J)I"⟩, method_9_code, 4, (some .int), [((0), (9), (12), (19)), ((0), (9), (15), (31)), ((0), (9), (18), (25)), ((0), (9), (21), (13))], 11209)) (M := (4, (some .int), [(0, 9, 12, 0), (0, 9, 15, 1), (0, 9, 18, 2), (0, 9, 21, 3)], ev_b71)) [5038, 7131, 5061, 4190] rfl rfl (by decide +kernel) ev_k71 ev_cc71
set_option maxRecDepth 100000 in
theorem ev_m72 : ev_Mok 72 := ev_mk (N := (⟨"PathProver", "show", "(I)I"⟩, prog_1_method_10_code, 4, (some .int), [], 11213)) (M := (4, (some .int), [], ev_b72)) [] rfl rfl (by decide +kernel) ev_k72 ev_cc72
set_option maxRecDepth 100000 in
theorem ev_m73 : ev_Mok 73 := ev_mk (N := (⟨"PathProverModel", "show", "(I)I"⟩, prog_15_method_120_code, 6, (some .int), [((132), (185), (205), (453)), ((186), (201), (205), (453))], 16102)) (M := (6, (some .int), [(132, 185, 205, 3), (186, 201, 205, 3)], ev_b73)) [13109, 13109] rfl rfl (by decide +kernel) ev_k73 ev_cc73
set_option maxRecDepth 100000 in
theorem ev_m74 : ev_Mok 74 := ev_mk (N := (⟨"PathProverLaw", "pick", "(LPathProver;I[J)I"⟩, method_10_code, 4, (some .int), [((0), (9), (12), (19)), ((0), (9), (15), (31)), ((0), (9), (18), (13))], 12005)) (M := (4, (some .int), [(0, 9, 12, 0), (0, 9, 15, 1), (0, 9, 18, 3)], ev_b74)) [5038, 7131, 4190] rfl rfl (by decide +kernel) ev_k74 ev_cc74
set_option maxRecDepth 100000 in
theorem ev_m75 : ev_Mok 75 := ev_mk (N := (⟨"PathProver", "pick", "(I)I"⟩, prog_1_method_11_code, 2, (some .int), [], 12009)) (M := (2, (some .int), [], ev_b75)) [] rfl rfl (by decide +kernel) ev_k75 ev_cc75
set_option maxRecDepth 100000 in
theorem ev_m76 : ev_Mok 76 := ev_mk (N := (⟨"PathProver", "needPlain", "(I)V"⟩, prog_1_method_23_code, 2, none, [], 12013)) (M := (2, none, [], ev_b76)) [] rfl rfl (by decide +kernel) ev_k76 ev_cc76
set_option maxRecDepth 100000 in
theorem ev_m77 : ev_Mok 77 := ev_mk (N := (⟨"PathProverModel", "pick", "(I)I"⟩, prog_15_method_126_code, 2, (some .int), [], 16146)) (M := (2, (some .int), [], ev_b77)) [] rfl rfl (by decide +kernel) ev_k77 ev_cc77
set_option maxRecDepth 100000 in
theorem ev_m78 : ev_Mok 78 := ev_mk (N := (⟨"PathProverLaw", "first", "(LPathProver;I[J)I"⟩, method_11_code, 4, (some .int), [((0), (9), (12), (19)), ((0), (9), (15), (31)), ((0), (9), (18), (13))], 12021)) (M := (4, (some .int), [(0, 9, 12, 0), (0, 9, 15, 1), (0, 9, 18, 3)], ev_b78)) [5038, 7131, 4190] rfl rfl (by decide +kernel) ev_k78 ev_cc78
set_option maxRecDepth 100000 in
theorem ev_m79 : ev_Mok 79 := ev_mk (N := (⟨"PathProver", "first", "(I)I"⟩, prog_1_method_12_code, 2, (some .int), [], 12025)) (M := (2, (some .int), [], ev_b79)) [] rfl rfl (by decide +kernel) ev_k79 ev_cc79
set_option maxRecDepth 100000 in
theorem ev_m80 : ev_Mok 80 := ev_mk (N := (⟨"PathProverModel", "first", "(I)I"⟩, prog_15_method_127_code, 4, (some .int), [], 16154)) (M := (4, (some .int), [], ev_b80)) [] rfl rfl (by decide +kernel) ev_k80 ev_cc80
set_option maxRecDepth 100000 in
theorem ev_m81 : ev_Mok 81 := ev_mk (N := (⟨"PathProverLaw", "step", "(LPathProver;I[J)I"⟩, method_12_code, 4, (some .int), [((0), (9), (12), (19)), ((0), (9), (15), (31)), ((0), (9), (18), (25)), ((0), (9), (21), (13))], 12036)) (M := (4, (some .int), [(0, 9, 12, 0), (0, 9, 15, 1), (0, 9, 18, 2), (0, 9, 21, 3)], ev_b81)) [5038, 7131, 5061, 4190] rfl rfl (by decide +kernel) ev_k81 ev_cc81
set_option maxRecDepth 100000 in
theorem ev_m82 : ev_Mok 82 := ev_mk (N := (⟨"PathProver", "step", "(I)I"⟩, prog_1_method_13_code, 2, (some .int), [], 12040)) (M := (2, (some .int), [], ev_b82)) [] rfl rfl (by decide +kernel) ev_k82 ev_cc82
set_option maxRecDepth 100000 in
theorem ev_m83 : ev_Mok 83 := ev_mk (N := (⟨"PathProverModel", "step", "(I)I"⟩, prog_15_method_128_code, 4, (some .int), [], 16158)) (M := (4, (some .int), [], ev_b83)) [] rfl rfl (by decide +kernel) ev_k83 ev_cc83
set_option maxRecDepth 100000 in
theorem ev_m84 : ev_Mok 84 := ev_mk (N := (⟨"PathProverLaw", "value", "(LPathProver;I[J)I"⟩, method_13_code, 4, (some .int), [((0), (9), (12), (19)), ((0), (9), (15), (31)), ((0), (9), (18), (25))], 12052)) (M := (4, (some .int), [(0, 9, 12, 0), (0, 9, 15, 1), (0, 9, 18, 2)], ev_b84)) [5038, 7131, 5061] rfl rfl (by decide +kernel) ev_k84 ev_cc84
set_option maxRecDepth 100000 in
theorem ev_m85 : ev_Mok 85 := ev_mk (N := (⟨"PathProver", "value", "(I)I"⟩, prog_1_method_14_code, 2, (some .int), [], 12056)) (M := (2, (some .int), [], ev_b85)) [] rfl rfl (by decide +kernel) ev_k85 ev_cc85
set_option maxRecDepth 100000 in
theorem ev_m86 : ev_Mok 86 := ev_mk (N := (⟨"PathProverModel", "value", "(I)I"⟩, prog_15_method_129_code, 3, (some .int), [], 16162)) (M := (3, (some .int), [], ev_b86)) [] rfl rfl (by decide +kernel) ev_k86 ev_cc86
set_option maxRecDepth 100000 in
theorem ev_m87 : ev_Mok 87 := ev_mk (N := (⟨"PathProverLaw", "holds", "(LPathProver;I[J)I"⟩, method_14_code, 4, (some .int), [((0), (16), (19), (19)), ((0), (16), (22), (31)), ((0), (16), (25), (25))], 12066)) (M := (4, (some .int), [(0, 16, 19, 0), (0, 16, 22, 1), (0, 16, 25, 2)], ev_b87)) [5038, 7131, 5061] rfl rfl (by decide +kernel) ev_k87 ev_cc87
set_option maxRecDepth 100000 in
theorem ev_m88 : ev_Mok 88 := ev_mk (N := (⟨"PathProver", "holds", "(I)Z"⟩, prog_1_method_15_code, 2, (some .boolean), [], 12070)) (M := (2, (some .boolean), [], ev_b88)) [] rfl rfl (by decide +kernel) ev_k88 ev_cc88
set_option maxRecDepth 100000 in
theorem ev_m89 : ev_Mok 89 := ev_mk (N := (⟨"PathProverModel", "holds", "(I)Z"⟩, prog_15_method_130_code, 3, (some .boolean), [], 16166)) (M := (3, (some .boolean), [], ev_b89)) [] rfl rfl (by decide +kernel) ev_k89 ev_cc89
set_option maxRecDepth 100000 in
theorem ev_m90 : ev_Mok 90 := ev_mk (N := (⟨"PathProverLaw", "tidy", "(LPathProver;I[J)I"⟩, method_15_code, 4, (some .int), [((0), (9), (12), (19)), ((0), (9), (15), (31))], 12077)) (M := (4, (some .int), [(0, 9, 12, 0), (0, 9, 15, 1)], ev_b90)) [5038, 7131] rfl rfl (by decide +kernel) ev_k90 ev_cc90
set_option maxRecDepth 100000 in
theorem ev_m91 : ev_Mok 91 := ev_mk (N := (⟨"PathProver", "tidy", "(I)I"⟩, prog_1_method_16_code, 2, (some .int), [], 12081)) (M := (2, (some .int), [], ev_b91)) [] rfl rfl (by decide +kernel) ev_k91 ev_cc91
set_option maxRecDepth 100000 in
theorem ev_m92 : ev_Mok 92 := ev_mk (N := (⟨"PathProverModel", "tidy", "(I)I"⟩, prog_15_method_131_code, 2, (some .int), [], 16170)) (M := (2, (some .int), [], ev_b92)) [] rfl rfl (by decide +kernel) ev_k92 ev_cc92
set_option maxRecDepth 100000 in
theorem ev_m93 : ev_Mok 93 := ev_mk (N := (⟨"PathProverLaw", "faults", "(LPathProver;I[J)I"⟩, method_16_code, 4, (some .int), [((0), (9), (12), (19))], 12084)) (M := (4, (some .int), [(0, 9, 12, 0)], ev_b93)) [5038] rfl rfl (by decide +kernel) ev_k93 ev_cc93
set_option maxRecDepth 100000 in
theorem ev_m94 : ev_Mok 94 := ev_mk (N := (⟨"PathProver", "faults", "(I)I"⟩, prog_1_method_17_code, 2, (some .int), [], 12088)) (M := (2, (some .int), [], ev_b94)) [] rfl rfl (by decide +kernel) ev_k94 ev_cc94
set_option maxRecDepth 100000 in
theorem ev_m95 : ev_Mok 95 := ev_mk (N := (⟨"PathProverModel", "faults", "(I)I"⟩, prog_15_method_132_code, 2, (some .int), [], 16174)) (M := (2, (some .int), [], ev_b95)) [] rfl rfl (by decide +kernel) ev_k95 ev_cc95
set_option maxRecDepth 100000 in
theorem ev_m96 : ev_Mok 96 := ev_mk (N := (⟨"java/lang/Math", "max", "(II)I"⟩, prog_31_method_65_code, 2, (some .int), [], 5153)) (M := (2, (some .int), [], ev_b96)) [] rfl rfl (by decide +kernel) ev_k96 ev_cc96
set_option maxRecDepth 100000 in
theorem ev_m97 : ev_Mok 97 := ev_mk (N := (⟨"java/lang/Math", "abs", "(I)I"⟩, prog_31_method_59_code, 1, (some .int), [], 9040)) (M := (1, (some .int), [], ev_b97)) [] rfl rfl (by decide +kernel) ev_k97 ev_cc97
set_option maxRecDepth 100000 in
theorem ev_m98 : ev_Mok 98 := ev_mk (N := (⟨"java/util/Arrays", "fill", "([IIII)V"⟩, prog_40_method_104_code, 5, none, [], 7185)) (M := (5, none, [], ev_b98)) [] rfl rfl (by decide +kernel) ev_k98 ev_cc98
set_option maxRecDepth 100000 in
theorem ev_m99 : ev_Mok 99 := ev_mk (N := (⟨"java/util/Arrays", "fill", "([JIIJ)V"⟩, prog_40_method_102_code, 6, none, [], 8229)) (M := (6, none, [], ev_b99)) [] rfl rfl (by decide +kernel) ev_k99 ev_cc99
set_option maxRecDepth 100000 in
theorem ev_m100 : ev_Mok 100 := ev_mk (N := (⟨"java/util/Arrays", "rangeCheck", "(III)V"⟩, prog_40_method_30_code, 3, none, [], 7188)) (M := (3, none, [], ev_b100)) [] rfl rfl (by decide +kernel) ev_k100 ev_cc100
set_option maxRecDepth 100000 in
theorem ev_m101 : ev_Mok 101 := ev_mk (N := (⟨"java/util/Arrays", "copyOf", "([II)[I"⟩, prog_40_method_123_code, 3, (some (.array .int)), [], 2151)) (M := (3, (some (.array .int)), [], ev_b101)) [] rfl rfl (by decide +kernel) ev_k101 ev_cc101
set_option maxRecDepth 100000 in
theorem ev_m102 : ev_Mok 102 := ev_mk (N := (⟨"java/util/Arrays", "copyOf", "([BI)[B"⟩, prog_40_method_121_code, 3, (some (.array .byte)), [], 5025)) (M := (3, (some (.array .byte)), [], ev_b102)) [] rfl rfl (by decide +kernel) ev_k102 ev_cc102
set_option maxRecDepth 100000 in
theorem ev_m103 : ev_Mok 103 := ev_mk (N := (⟨"java/lang/Long", "bitCount", "(J)I"⟩, prog_30_method_50_code, 2, (some .int), [], 9088)) (M := (2, (some .int), [], ev_b103)) [] rfl rfl (by decide +kernel) ev_k103 ev_cc103
set_option maxRecDepth 100000 in
theorem ev_m104 : ev_Mok 104 := ev_mk (N := (⟨"java/lang/Long", "numberOfTrailingZeros", "(J)I"⟩, prog_30_method_49_code, 3, (some .int), [], 9094)) (M := (3, (some .int), [], ev_b104)) [] rfl rfl (by decide +kernel) ev_k104 ev_cc104
set_option maxRecDepth 100000 in
theorem ev_m105 : ev_Mok 105 := ev_mk (N := (⟨"java/lang/Integer", "numberOfTrailingZeros", "(I)I"⟩, prog_29_method_48_code, 2, (some .int), [], 9097)) (M := (2, (some .int), [], ev_b105)) [] rfl rfl (by decide +kernel) ev_k105 ev_cc105
set_option maxRecDepth 100000 in
theorem ev_m106 : ev_Mok 106 := ev_mk (N := (⟨"java/lang/Integer", "numberOfLeadingZeros", "(I)I"⟩, prog_29_method_47_code, 2, (some .int), [], 7087)) (M := (2, (some .int), [], ev_b106)) [] rfl rfl (by decide +kernel) ev_k106 ev_cc106
set_option maxRecDepth 100000 in
theorem ev_m107 : ev_Mok 107 := ev_mk (N := (⟨"java/lang/Integer", "highestOneBit", "(I)I"⟩, prog_29_method_45_code, 1, (some .int), [], 7175)) (M := (1, (some .int), [], ev_b107)) [] rfl rfl (by decide +kernel) ev_k107 ev_cc107
set_option maxRecDepth 100000 in
theorem ev_m108 : ev_Mok 108 := ev_mk (N := (⟨"java/lang/String", "indexOf", "(I)I"⟩, prog_33_method_79_code, 2, (some .int), [], 5139)) (M := (2, (some .int), [], ev_b108)) [] rfl rfl (by decide +kernel) ev_k108 ev_cc108
set_option maxRecDepth 100000 in
theorem ev_m109 : ev_Mok 109 := ev_mk (N := (⟨"java/lang/String", "indexOf", "(II)I"⟩, prog_33_method_80_code, 3, (some .int), [], 5143)) (M := (3, (some .int), [], ev_b109)) [] rfl rfl (by decide +kernel) ev_k109 ev_cc109
set_option maxRecDepth 100000 in
theorem ev_m110 : ev_Mok 110 := ev_mk (N := (⟨"java/lang/StringLatin1", "indexOf", "([BIII)I"⟩, prog_35_method_22_code, 4, (some .int), [], 5147)) (M := (4, (some .int), [], ev_b110)) [] rfl rfl (by decide +kernel) ev_k110 ev_cc110
set_option maxRecDepth 100000 in
theorem ev_m111 : ev_Mok 111 := ev_mk (N := (⟨"java/lang/StringLatin1", "canEncode", "(I)Z"⟩, prog_35_method_4_code, 1, (some .boolean), [], 5150)) (M := (1, (some .boolean), [], ev_b111)) [] rfl rfl (by decide +kernel) ev_k111 ev_cc111
set_option maxRecDepth 100000 in
theorem ev_m112 : ev_Mok 112 := ev_mk (N := (⟨"java/lang/StringLatin1", "indexOfChar", "([BIII)I"⟩, prog_35_method_23_code, 6, (some .int), [], 5157)) (M := (6, (some .int), [], ev_b112)) [] rfl rfl (by decide +kernel) ev_k112 ev_cc112
set_option maxRecDepth 100000 in
theorem ev_m113 : ev_Mok 113 := ev_mk (N := (⟨"java/lang/String", "equals", "(Ljava/lang/Object;)Z"⟩, prog_33_method_66_code, 3, (some .boolean), [], 13165)) (M := (3, (some .boolean), [], ev_b113)) [] rfl rfl (by decide +kernel) ev_k113 ev_cc113
set_option maxRecDepth 100000 in
theorem ev_m114 : ev_Mok 114 := ev_mk (N := (⟨"java/lang/StringLatin1", "equals", "([B[B)Z"⟩, prog_35_method_13_code, 3, (some .boolean), [], 13169)) (M := (3, (some .boolean), [], ev_b114)) [] rfl rfl (by decide +kernel) ev_k114 ev_cc114
set_option maxRecDepth 100000 in
theorem ev_m115 : ev_Mok 115 := ev_mk (N := (⟨"PathProver$Rows", "cut", "(I)V"⟩, prog_10_method_3_code, 2, none, [], 6065)) (M := (2, none, [], ev_b115)) [] rfl rfl (by decide +kernel) ev_k115 ev_cc115
set_option maxRecDepth 100000 in
theorem ev_m116 : ev_Mok 116 := ev_mk (N := (⟨"PathProver$Rows", "set", "(III)V"⟩, prog_10_method_6_code, 4, none, [], 5216)) (M := (4, none, [], ev_b116)) [] rfl rfl (by decide +kernel) ev_k116 ev_cc116
set_option maxRecDepth 100000 in
theorem ev_m117 : ev_Mok 117 := ev_mk (N := (⟨"PathProver$Lexer", "symbolOf", "(I)I"⟩, prog_4_method_14_code, 2, (some .int), [], 6127)) (M := (2, (some .int), [], ev_b117)) [] rfl rfl (by decide +kernel) ev_k117 ev_cc117
set_option maxRecDepth 100000 in
theorem ev_m118 : ev_Mok 118 := ev_mk (N := (⟨"PathProver$Lexer", "makeSymbol", "(I)I"⟩, prog_4_method_13_code, 2, (some .int), [], 6007)) (M := (2, (some .int), [], ev_b118)) [] rfl rfl (by decide +kernel) ev_k118 ev_cc118
set_option maxRecDepth 100000 in
theorem ev_m119 : ev_Mok 119 := ev_mk (N := (⟨"PathProver$Lexer", "isLetter", "(I)Z"⟩, prog_4_method_5_code, 1, (some .boolean), [], 5116)) (M := (1, (some .boolean), [], ev_b119)) [] rfl rfl (by decide +kernel) ev_k119 ev_cc119
set_option maxRecDepth 100000 in
theorem ev_m120 : ev_Mok 120 := ev_mk (N := (⟨"PathProver$Lexer", "word", "()V"⟩, prog_4_method_7_code, 2, none, [], 5120)) (M := (2, none, [], ev_b120)) [] rfl rfl (by decide +kernel) ev_k120 ev_cc120
set_option maxRecDepth 100000 in
theorem ev_m121 : ev_Mok 121 := ev_mk (N := (⟨"PathProver$Lexer", "isDigit", "(I)Z"⟩, prog_4_method_6_code, 1, (some .boolean), [], 5123)) (M := (1, (some .boolean), [], ev_b121)) [] rfl rfl (by decide +kernel) ev_k121 ev_cc121
set_option maxRecDepth 100000 in
theorem ev_m122 : ev_Mok 122 := ev_mk (N := (⟨"PathProver$Lexer", "number", "()V"⟩, prog_4_method_8_code, 1, none, [], 5127)) (M := (1, none, [], ev_b122)) [] rfl rfl (by decide +kernel) ev_k122 ev_cc122
set_option maxRecDepth 100000 in
theorem ev_m123 : ev_Mok 123 := ev_mk (N := (⟨"PathProver$Lexer", "sign", "()V"⟩, prog_4_method_9_code, 5, none, [], 5133)) (M := (5, none, [], ev_b123)) [] rfl rfl (by decide +kernel) ev_k123 ev_cc123
set_option maxRecDepth 100000 in
theorem ev_m124 : ev_Mok 124 := ev_mk (N := (⟨"PathProver$Lexer", "isWord", "(I[BII)Z"⟩, prog_4_method_11_code, 7, (some .boolean), [], 5098)) (M := (7, (some .boolean), [], ev_b124)) [] rfl rfl (by decide +kernel) ev_k124 ev_cc124
set_option maxRecDepth 100000 in
theorem ev_m125 : ev_Mok 125 := ev_mk (N := (⟨"PathProver$Model", "reach", "(II)I"⟩, prog_6_method_13_code, 8, (some .int), [], 7017)) (M := (8, (some .int), [], ev_b125)) [] rfl rfl (by decide +kernel) ev_k125 ev_cc125
set_option maxRecDepth 100000 in
theorem ev_m126 : ev_Mok 126 := ev_mk (N := (⟨"PathProver$Model", "sortOf", "(I)I"⟩, prog_6_method_5_code, 3, (some .int), [], 7053)) (M := (3, (some .int), [], ev_b126)) [] rfl rfl (by decide +kernel) ev_k126 ev_cc126
set_option maxRecDepth 100000 in
theorem ev_m127 : ev_Mok 127 := ev_mk (N := (⟨"PathProver$Model", "worth", "(II)I"⟩, prog_6_method_7_code, 5, (some .int), [], 6217)) (M := (5, (some .int), [], ev_b127)) [] rfl rfl (by decide +kernel) ev_k127 ev_cc127
set_option maxRecDepth 100000 in
theorem ev_m128 : ev_Mok 128 := ev_mk (N := (⟨"PathProver$Model", "startOf", "(I)I"⟩, prog_6_method_15_code, 4, (some .int), [], 9226)) (M := (4, (some .int), [], ev_b128)) [] rfl rfl (by decide +kernel) ev_k128 ev_cc128
set_option maxRecDepth 100000 in
theorem ev_m129 : ev_Mok 129 := ev_mk (N := (⟨"PathProver$Model", "collect", "(IIILPathProver$Rows;)V"⟩, prog_6_method_14_code, 11, none, [], 8179)) (M := (11, none, [], ev_b129)) [] rfl rfl (by decide +kernel) ev_k129 ev_cc129
set_option maxRecDepth 100000 in
theorem ev_m130 : ev_Mok 130 := ev_mk (N := (⟨"PathProver$Model", "stop", "(IILPathProver$Rows;)I"⟩, prog_6_method_4_code, 4, (some .int), [], 6160)) (M := (4, (some .int), [], ev_b130)) [] rfl rfl (by decide +kernel) ev_k130 ev_cc130
set_option maxRecDepth 100000 in
theorem ev_m131 : ev_Mok 131 := ev_mk (N := (⟨"PathProver$Model", "bits", "()I"⟩, prog_6_method_8_code, 3, (some .int), [], 7084)) (M := (3, (some .int), [], ev_b131)) [] rfl rfl (by decide +kernel) ev_k131 ev_cc131
set_option maxRecDepth 100000 in
theorem ev_m132 : ev_Mok 132 := ev_mk (N := (⟨"PathProver$Model", "grow", "(I)V"⟩, prog_6_method_9_code, 7, none, [], 6200)) (M := (7, none, [], ev_b132)) [] rfl rfl (by decide +kernel) ev_k132 ev_cc132
set_option maxRecDepth 100000 in
theorem ev_m133 : ev_Mok 133 := ev_mk (N := (⟨"PathProver$Model", "addInstance", "(III)V"⟩, prog_6_method_11_code, 8, none, [], 6204)) (M := (8, none, [], ev_b133)) [] rfl rfl (by decide +kernel) ev_k133 ev_cc133
set_option maxRecDepth 100000 in
theorem ev_m134 : ev_Mok 134 := ev_mk (N := (⟨"PathProver$Model", "addVar", "(III)V"⟩, prog_6_method_10_code, 5, none, [], 6209)) (M := (5, none, [], ev_b134)) [] rfl rfl (by decide +kernel) ev_k134 ev_cc134
set_option maxRecDepth 100000 in
theorem ev_m135 : ev_Mok 135 := ev_mk (N := (⟨"PathProver$Model", "addClaims", "(II)V"⟩, prog_6_method_12_code, 5, none, [], 6221)) (M := (5, none, [], ev_b135)) [] rfl rfl (by decide +kernel) ev_k135 ev_cc135
set_option maxRecDepth 100000 in
theorem ev_m136 : ev_Mok 136 := ev_mk (N := (⟨"PathProver$Model", "valuesOf", "(I)I"⟩, prog_6_method_6_code, 4, (some .int), [], 6213)) (M := (4, (some .int), [], ev_b136)) [] rfl rfl (by decide +kernel) ev_k136 ev_cc136
set_option maxRecDepth 100000 in
theorem ev_m137 : ev_Mok 137 := ev_mk (N := (⟨"PathProver$Model", "openModule", "(I)V"⟩, prog_6_method_3_code, 3, none, [], 5211)) (M := (3, none, [], ev_b137)) [] rfl rfl (by decide +kernel) ev_k137 ev_cc137
set_option maxRecDepth 100000 in
theorem ev_m138 : ev_Mok 138 := ev_mk (N := (⟨"PathProver$Parser", "variable", "()Z"⟩, prog_7_method_11_code, 2, (some .boolean), [], 5226)) (M := (2, (some .boolean), [], ev_b138)) [] rfl rfl (by decide +kernel) ev_k138 ev_cc138
set_option maxRecDepth 100000 in
theorem ev_m139 : ev_Mok 139 := ev_mk (N := (⟨"PathProver$Parser", "section", "()Z"⟩, prog_7_method_8_code, 2, (some .boolean), [], 6016)) (M := (2, (some .boolean), [], ev_b139)) [] rfl rfl (by decide +kernel) ev_k139 ev_cc139
theorem ev_ma25 : ∀ j, 0 < j → j < 25 → ev_Mok j := (ev_upto (ev_upto (ev_upto (ev_upto (ev_upto (ev_upto (ev_upto (ev_upto (ev_upto (ev_upto (ev_upto (ev_upto (ev_upto (ev_upto (ev_upto (ev_upto (ev_upto (ev_upto (ev_upto (ev_upto (ev_upto (ev_upto (ev_upto (ev_upto (fun j h1 h2 => absurd h1 (by omega)) ev_m1) ev_m2) ev_m3) ev_m4) ev_m5) ev_m6) ev_m7) ev_m8) ev_m9) ev_m10) ev_m11) ev_m12) ev_m13) ev_m14) ev_m15) ev_m16) ev_m17) ev_m18) ev_m19) ev_m20) ev_m21) ev_m22) ev_m23) ev_m24)
theorem ev_ma49 : ∀ j, 0 < j → j < 49 → ev_Mok j := (ev_upto (ev_upto (ev_upto (ev_upto (ev_upto (ev_upto (ev_upto (ev_upto (ev_upto (ev_upto (ev_upto (ev_upto (ev_upto (ev_upto (ev_upto (ev_upto (ev_upto (ev_upto (ev_upto (ev_upto (ev_upto (ev_upto (ev_upto (ev_upto ev_ma25 ev_m25) ev_m26) ev_m27) ev_m28) ev_m29) ev_m30) ev_m31) ev_m32) ev_m33) ev_m34) ev_m35) ev_m36) ev_m37) ev_m38) ev_m39) ev_m40) ev_m41) ev_m42) ev_m43) ev_m44) ev_m45) ev_m46) ev_m47) ev_m48)
theorem ev_ma73 : ∀ j, 0 < j → j < 73 → ev_Mok j := (ev_upto (ev_upto (ev_upto (ev_upto (ev_upto (ev_upto (ev_upto (ev_upto (ev_upto (ev_upto (ev_upto (ev_upto (ev_upto (ev_upto (ev_upto (ev_upto (ev_upto (ev_upto (ev_upto (ev_upto (ev_upto (ev_upto (ev_upto (ev_upto ev_ma49 ev_m49) ev_m50) ev_m51) ev_m52) ev_m53) ev_m54) ev_m55) ev_m56) ev_m57) ev_m58) ev_m59) ev_m60) ev_m61) ev_m62) ev_m63) ev_m64) ev_m65) ev_m66) ev_m67) ev_m68) ev_m69) ev_m70) ev_m71) ev_m72)
theorem ev_ma97 : ∀ j, 0 < j → j < 97 → ev_Mok j := (ev_upto (ev_upto (ev_upto (ev_upto (ev_upto (ev_upto (ev_upto (ev_upto (ev_upto (ev_upto (ev_upto (ev_upto (ev_upto (ev_upto (ev_upto (ev_upto (ev_upto (ev_upto (ev_upto (ev_upto (ev_upto (ev_upto (ev_upto (ev_upto ev_ma73 ev_m73) ev_m74) ev_m75) ev_m76) ev_m77) ev_m78) ev_m79) ev_m80) ev_m81) ev_m82) ev_m83) ev_m84) ev_m85) ev_m86) ev_m87) ev_m88) ev_m89) ev_m90) ev_m91) ev_m92) ev_m93) ev_m94) ev_m95) ev_m96)
theorem ev_ma121 : ∀ j, 0 < j → j < 121 → ev_Mok j := (ev_upto (ev_upto (ev_upto (ev_upto (ev_upto (ev_upto (ev_upto (ev_upto (ev_upto (ev_upto (ev_upto (ev_upto (ev_upto (ev_upto (ev_upto (ev_upto (ev_upto (ev_upto (ev_upto (ev_upto (ev_upto (ev_upto (ev_upto (ev_upto ev_ma97 ev_m97) ev_m98) ev_m99) ev_m100) ev_m101) ev_m102) ev_m103) ev_m104) ev_m105) ev_m106) ev_m107) ev_m108) ev_m109) ev_m110) ev_m111) ev_m112) ev_m113) ev_m114) ev_m115) ev_m116) ev_m117) ev_m118) ev_m119) ev_m120)
theorem ev_mz : ∀ j, 0 < j → j < 140 → ev_Mok j := (ev_upto (ev_upto (ev_upto (ev_upto (ev_upto (ev_upto (ev_upto (ev_upto (ev_upto (ev_upto (ev_upto (ev_upto (ev_upto (ev_upto (ev_upto (ev_upto (ev_upto (ev_upto (ev_upto ev_ma121 ev_m121) ev_m122) ev_m123) ev_m124) ev_m125) ev_m126) ev_m127) ev_m128) ev_m129) ev_m130) ev_m131) ev_m132) ev_m133) ev_m134) ev_m135) ev_m136) ev_m137) ev_m138) ev_m139)
theorem ev_inf_some (j : Nat) (h : 140 ≤ j) : ev_inf j = none := by
  unfold ev_inf
  by_cases h2 : j < 144
  · have hc : j = 140 ∨ j = 141 ∨ j = 142 ∨ j = 143 := by omega
    rcases hc with rfl | rfl | rfl | rfl <;> rfl
  · have e : ev_infs[j / 24]? = none := by
      apply List.getElem?_eq_none
      show 6 ≤ j / 24
      omega
    rw [e]
theorem ev_ms_some : ∀ j, j < 140 → (ev_ms j).isSome = true := by decide +kernel
theorem ev_mok (j : Nat) (hj : 0 < j) : ev_Mok j := by
  by_cases h : j < 140
  · exact ev_mz j hj h
  · intro N nL ret hh code h1 h2
    rw [ev_inf_some j (by omega)] at h1
    cases h1
theorem ev_inf_ok (j : Nat) (N : ev_N) (h : ev_inf j = some N) (hj : 0 < j) : ev_nok N := by
  have hl : j < 140 := by
    by_cases q : j < 140
    · exact q
    · rw [ev_inf_some j (by omega)] at h
      cases h
  obtain ⟨⟨nL, ret, hh, code⟩, hM⟩ := Option.isSome_iff_exists.mp (ev_ms_some j hl)
  obtain ⟨k1, k2, k3, k4, k5, k6, k7, ps, k8⟩ := ev_mok j hj N nL ret hh code h hM
  exact ⟨k3, by omega⟩
def ev_atc (own : String) (ic x : Nat) (pls dps : List Nat) : Bool := (Bundle.ownAtoms0 own ic (ev_xn x) ev_chain).all fun w => decide (w = .castable (ev_xn x) (ev_xn x)) || decide (w = ev_ref1) || decide (w = ev_ref2) || decide (w = ev_lay1) || decide (w = ev_lay2) || (match w with | .declares _ => dps.any fun pl => decide (ev_pl pl = some w) | _ => pls.any fun pl => ev_hw pl w)
theorem ev_atc_ok {own : String} {ic x : Nat} {pls dps : List Nat} (h : ev_atc own ic x pls dps = true) : ev_atoms own ic x := by
  intro w hw
  have z := List.all_eq_true.mp h w hw
  simp only [Bool.or_eq_true, decide_eq_true_eq] at z
  rcases z with ((((z | z) | z) | z) | z) | z
  · exact Or.inr (Or.inl z)
  · exact Or.inr (Or.inr (Or.inl z))
  · exact Or.inr (Or.inr (Or.inr (Or.inl z)))
  · exact Or.inr (Or.inr (Or.inr (Or.inr (Or.inl z))))
  · exact Or.inr (Or.inr (Or.inr (Or.inr (Or.inr (Or.inl z)))))
  · split at z
    · obtain ⟨pl, -, h2⟩ := List.any_eq_true.mp z
      rw [decide_eq_true_eq] at h2
      exact Or.inr (Or.inr (Or.inr (Or.inr (Or.inr (Or.inr ⟨ev_pl_mem h2, _, rfl⟩)))))
    · obtain ⟨pl, -, h2⟩ := List.any_eq_true.mp z
      exact Or.inl (ev_hw_mem h2)
set_option maxRecDepth 100000 in
theorem ev_at0 : ev_atoms "PathProver" 84 3 ∧ Cond.castable (ev_xn 3) (ev_xn 3) ∈ lw_tbl := ⟨ev_atc_ok (pls := [1023, 1026, 1047, 1048, 4197, 4198, 4205, 4206, 4207, 4208, 4209, 4210, 4211, 4212, 4213, 4214, 4215, 4216, 4217, 4218, 4219, 4220, 4221, 4222, 4224, 4226, 4227, 4230, 4231, 4233, 4234, 4236, 4238, 4239, 5000, 5001, 5002, 5003, 5004, 5005, 5006, 5007, 5008, 5011, 5012, 5013, 5018, 5021, 8165, 8166, 8167, 8174, 16185]) (dps := [4199, 4201, 4203]) (by decide +kernel), (ev_nw_mem (pl := 4198) (by decide +kernel)).1⟩
set_option maxRecDepth 100000 in
theorem ev_at1 : ev_atoms "PathProver" 103 0 ∧ Cond.castable (ev_xn 0) (ev_xn 0) ∈ lw_tbl := ⟨ev_atc_ok (pls := [1023, 1027, 1047, 1048, 4208, 4210, 4212, 4214, 4216, 4217, 4218, 4219, 4220, 4221, 4222, 4224, 4226, 4227, 4230, 4231, 4233, 4234, 4236, 4238, 5003, 5004, 5005, 5006, 5007, 5008, 5011, 5012, 5013, 5044, 5045, 5046, 5047, 5048, 5049, 5050, 5051, 5052, 5053, 5054, 5055, 5056, 5057, 8121, 8122, 8123]) (dps := [4199, 4201, 4203]) (by decide +kernel), (ev_nw_mem (pl := 5045) (by decide +kernel)).1⟩
set_option maxRecDepth 100000 in
theorem ev_at2 : ev_atoms "PathProver" 114 2 ∧ Cond.castable (ev_xn 2) (ev_xn 2) ∈ lw_tbl := ⟨ev_atc_ok (pls := [1023, 1030, 1047, 1048, 4208, 4210, 4212, 4214, 4216, 4217, 4218, 4219, 4220, 4221, 4222, 4224, 4226, 4227, 4230, 4231, 4232, 4233, 4234, 4236, 4238, 5003, 5004, 5005, 5006, 5007, 5008, 5011, 5012, 5013, 7090, 7091, 7092, 7093, 7094, 7095, 7096, 7097, 7098, 7099, 7100, 7101, 7102, 7103]) (dps := [4199, 4201, 4203]) (by decide +kernel), (ev_nw_mem (pl := 7091) (by decide +kernel)).1⟩
set_option maxRecDepth 100000 in
theorem ev_at3 : ev_atoms "PathProverModel" 293 0 ∧ Cond.castable (ev_xn 0) (ev_xn 0) ∈ lw_tbl := ⟨ev_atc_ok (pls := [1023, 1027, 1047, 1048, 4208, 4210, 4212, 4214, 4216, 4217, 4218, 4219, 4220, 4221, 4222, 4224, 4226, 4227, 4230, 4231, 4233, 4234, 4236, 4238, 5003, 5004, 5005, 5006, 5007, 5008, 5011, 5012, 5013, 5044, 5045, 5046, 5047, 5048, 5049, 5050, 5051, 5053, 5054, 5055, 5056, 5057, 8121, 8122, 8123, 13174]) (dps := [4199, 4201, 4203]) (by decide +kernel), (ev_nw_mem (pl := 5045) (by decide +kernel)).1⟩
set_option maxRecDepth 100000 in
theorem ev_at4 : ev_atoms "PathProver" 319 1 ∧ Cond.castable (ev_xn 1) (ev_xn 1) ∈ lw_tbl := ⟨ev_atc_ok (pls := [1023, 1038, 1047, 1048, 4208, 4210, 4212, 4214, 4216, 4217, 4218, 4219, 4220, 4221, 4222, 4224, 4226, 4227, 4230, 4231, 4233, 4234, 4236, 4238, 5003, 5004, 5005, 5006, 5007, 5008, 5011, 5012, 5013, 7145, 7146, 7147, 7148, 7149, 7150, 7151, 7152, 7153, 7154, 7155, 7156, 7157, 7158]) (dps := [4199, 4201, 4203]) (by decide +kernel), (ev_nw_mem (pl := 7146) (by decide +kernel)).1⟩
theorem ev_at_all : ∀ q ∈ ev_atl, ev_atoms q.1 q.2.1 q.2.2 ∧ Cond.castable (ev_xn q.2.2) (ev_xn q.2.2) ∈ lw_tbl := by
  intro q hq
  simp only [ev_atl, List.mem_cons, List.not_mem_nil, or_false] at hq
  rcases hq with rfl | rfl | rfl | rfl | rfl
  · exact ev_at0
  · exact ev_at1
  · exact ev_at2
  · exact ev_at3
  · exact ev_at4
