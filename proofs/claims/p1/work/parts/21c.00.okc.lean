/-! Printed by wip/whole/gen8.py: the methods' calls are words of the tables -/
set_option maxRecDepth 100000 in
theorem ev_cc0_0 : ev_b0_0.all (ev_okc "PathProverLaw") = true := by decide +kernel
set_option maxRecDepth 100000 in
theorem ev_cc0_1 : ev_b0_1.all (ev_okc "PathProverLaw") = true := by decide +kernel
set_option maxRecDepth 100000 in
theorem ev_cc0_2 : ev_b0_2.all (ev_okc "PathProverLaw") = true := by decide +kernel
set_option maxRecDepth 100000 in
theorem ev_cc0_3 : ev_b0_3.all (ev_okc "PathProverLaw") = true := by decide +kernel
set_option maxRecDepth 100000 in
theorem ev_cc0_4 : ev_b0_4.all (ev_okc "PathProverLaw") = true := by decide +kernel
set_option maxRecDepth 100000 in
theorem ev_cc0_5 : ev_b0_5.all (ev_okc "PathProverLaw") = true := by decide +kernel
set_option maxRecDepth 100000 in
theorem ev_cc0_6 : ev_b0_6.all (ev_okc "PathProverLaw") = true := by decide +kernel
set_option maxRecDepth 100000 in
theorem ev_cc0_7 : ev_b0_7.all (ev_okc "PathProverLaw") = true := by decide +kernel
set_option maxRecDepth 100000 in
theorem ev_cc0_8 : ev_b0_8.all (ev_okc "PathProverLaw") = true := by decide +kernel
set_option maxRecDepth 100000 in
theorem ev_cc0_9 : ev_b0_9.all (ev_okc "PathProverLaw") = true := by decide +kernel
set_option maxRecDepth 100000 in
theorem ev_cc0_10 : ev_b0_10.all (ev_okc "PathProverLaw") = true := by decide +kernel
set_option maxRecDepth 100000 in
theorem ev_cc0_11 : ev_b0_11.all (ev_okc "PathProverLaw") = true := by decide +kernel
set_option maxRecDepth 100000 in
theorem ev_cc0_12 : ev_b0_12.all (ev_okc "PathProverLaw") = true := by decide +kernel
set_option maxRecDepth 100000 in
theorem ev_cc0_13 : ev_b0_13.all (ev_okc "PathProverLaw") = true := by decide +kernel
set_option maxRecDepth 100000 in
theorem ev_cc0_14 : ev_b0_14.all (ev_okc "PathProverLaw") = true := by decide +kernel
theorem ev_cc0 : ev_b0.all (ev_okc "PathProverLaw") = true := (ev_all ev_cc0_0 (ev_all ev_cc0_1 (ev_all ev_cc0_2 (ev_all ev_cc0_3 (ev_all ev_cc0_4 (ev_all ev_cc0_5 (ev_all ev_cc0_6 (ev_all ev_cc0_7 (ev_all ev_cc0_8 (ev_all ev_cc0_9 (ev_all ev_cc0_10 (ev_all ev_cc0_11 (ev_all ev_cc0_12 (ev_all ev_cc0_13 ev_cc0_14))))))))))))))
set_option maxRecDepth 100000 in
theorem ev_cc1_0 : ev_b1_0.all (ev_okc "PathProver") = true := by decide +kernel
set_option maxRecDepth 100000 in
theorem ev_cc1_1 : ev_b1_1.all (ev_okc "PathProver") = true := by decide +kernel
theorem ev_cc1 : ev_b1.all (ev_okc "PathProver") = true := (ev_all ev_cc1_0 ev_cc1_1)
set_option maxRecDepth 100000 in
theorem ev_cc2_0 : ev_b2_0.all (ev_okc "PathProver$Model") = true := by decide +kernel
set_option maxRecDepth 100000 in
theorem ev_cc2_1 : ev_b2_1.all (ev_okc "PathProver$Model") = true := by decide +kernel
set_option maxRecDepth 100000 in
theorem ev_cc2_2 : ev_b2_2.all (ev_okc "PathProver$Model") = true := by decide +kernel
set_option maxRecDepth 100000 in
theorem ev_cc2_3 : ev_b2_3.all (ev_okc "PathProver$Model") = true := by decide +kernel
theorem ev_cc2 : ev_b2.all (ev_okc "PathProver$Model") = true := (ev_all ev_cc2_0 (ev_all ev_cc2_1 (ev_all ev_cc2_2 ev_cc2_3)))
set_option maxRecDepth 100000 in
theorem ev_cc3 : ev_b3.all (ev_okc "PathProver$Rows") = true := by decide +kernel
set_option maxRecDepth 100000 in
theorem ev_cc4 : ev_b4.all (ev_okc "PathProver$Parser") = true := by decide +kernel
set_option maxRecDepth 100000 in
theorem ev_cc5_0 : ev_b5_0.all (ev_okc "PathProver$Lexer") = true := by decide +kernel
set_option maxRecDepth 100000 in
theorem ev_cc5_1 : ev_b5_1.all (ev_okc "PathProver$Lexer") = true := by decide +kernel
theorem ev_cc5 : ev_b5.all (ev_okc "PathProver$Lexer") = true := (ev_all ev_cc5_0 ev_cc5_1)
set_option maxRecDepth 100000 in
theorem ev_cc6 : ev_b6.all (ev_okc "java/lang/String") = true := by decide +kernel
set_option maxRecDepth 100000 in
theorem ev_cc7 : ev_b7.all (ev_okc "java/lang/String") = true := by decide +kernel
set_option maxRecDepth 100000 in
theorem ev_cc8 : ev_b8.all (ev_okc "java/lang/String") = true := by decide +kernel
set_option maxRecDepth 100000 in
theorem ev_cc9 : ev_b9.all (ev_okc "java/lang/String") = true := by decide +kernel
set_option maxRecDepth 100000 in
theorem ev_cc10 : ev_b10.all (ev_okc "java/lang/StringLatin1") = true := by decide +kernel
set_option maxRecDepth 100000 in
theorem ev_cc11 : ev_b11.all (ev_okc "java/lang/String") = true := by decide +kernel
set_option maxRecDepth 100000 in
theorem ev_cc12 : ev_b12.all (ev_okc "jdk/internal/util/Preconditions") = true := by decide +kernel
set_option maxRecDepth 100000 in
theorem ev_cc13 : ev_b13.all (ev_okc "PathProver$Judge") = true := by decide +kernel
set_option maxRecDepth 100000 in
theorem ev_cc14 : ev_b14.all (ev_okc "PathProver$Sound") = true := by decide +kernel
set_option maxRecDepth 100000 in
theorem ev_cc15_0 : ev_b15_0.all (ev_okc "PathProver$Space") = true := by decide +kernel
set_option maxRecDepth 100000 in
theorem ev_cc15_1 : ev_b15_1.all (ev_okc "PathProver$Space") = true := by decide +kernel
theorem ev_cc15 : ev_b15.all (ev_okc "PathProver$Space") = true := (ev_all ev_cc15_0 ev_cc15_1)
set_option maxRecDepth 100000 in
theorem ev_cc16_0 : ev_b16_0.all (ev_okc "PathProver$Machine") = true := by decide +kernel
set_option maxRecDepth 100000 in
theorem ev_cc16_1 : ev_b16_1.all (ev_okc "PathProver$Machine") = true := by decide +kernel
theorem ev_cc16 : ev_b16.all (ev_okc "PathProver$Machine") = true := (ev_all ev_cc16_0 ev_cc16_1)
set_option maxRecDepth 100000 in
theorem ev_cc17_0 : ev_b17_0.all (ev_okc "PathProver$Rows") = true := by decide +kernel
set_option maxRecDepth 100000 in
theorem ev_cc17_1 : ev_b17_1.all (ev_okc "PathProver$Rows") = true := by decide +kernel
theorem ev_cc17 : ev_b17.all (ev_okc "PathProver$Rows") = true := (ev_all ev_cc17_0 ev_cc17_1)
set_option maxRecDepth 100000 in
theorem ev_cc18 : ev_b18.all (ev_okc "PathProver$Sets") = true := by decide +kernel
set_option maxRecDepth 100000 in
theorem ev_cc19_0 : ev_b19_0.all (ev_okc "PathProver$Relation") = true := by decide +kernel
set_option maxRecDepth 100000 in
theorem ev_cc19_1 : ev_b19_1.all (ev_okc "PathProver$Relation") = true := by decide +kernel
set_option maxRecDepth 100000 in
theorem ev_cc19_2 : ev_b19_2.all (ev_okc "PathProver$Relation") = true := by decide +kernel
theorem ev_cc19 : ev_b19.all (ev_okc "PathProver$Relation") = true := (ev_all ev_cc19_0 (ev_all ev_cc19_1 ev_cc19_2))
set_option maxRecDepth 100000 in
theorem ev_cc20_0 : ev_b20_0.all (ev_okc "PathProver$Graph") = true := by decide +kernel
set_option maxRecDepth 100000 in
theorem ev_cc20_1 : ev_b20_1.all (ev_okc "PathProver$Graph") = true := by decide +kernel
theorem ev_cc20 : ev_b20.all (ev_okc "PathProver$Graph") = true := (ev_all ev_cc20_0 ev_cc20_1)
set_option maxRecDepth 100000 in
theorem ev_cc21_0 : ev_b21_0.all (ev_okc "PathProver$Prover") = true := by decide +kernel
set_option maxRecDepth 100000 in
theorem ev_cc21_1 : ev_b21_1.all (ev_okc "PathProver$Prover") = true := by decide +kernel
theorem ev_cc21 : ev_b21.all (ev_okc "PathProver$Prover") = true := (ev_all ev_cc21_0 ev_cc21_1)
set_option maxRecDepth 100000 in
theorem ev_cc22_0 : ev_b22_0.all (ev_okc "PathProverModel") = true := by decide +kernel
set_option maxRecDepth 100000 in
theorem ev_cc22_1 : ev_b22_1.all (ev_okc "PathProverModel") = true := by decide +kernel
set_option maxRecDepth 100000 in
theorem ev_cc22_2 : ev_b22_2.all (ev_okc "PathProverModel") = true := by decide +kernel
set_option maxRecDepth 100000 in
theorem ev_cc22_3 : ev_b22_3.all (ev_okc "PathProverModel") = true := by decide +kernel
set_option maxRecDepth 100000 in
theorem ev_cc22_4 : ev_b22_4.all (ev_okc "PathProverModel") = true := by decide +kernel
set_option maxRecDepth 100000 in
theorem ev_cc22_5 : ev_b22_5.all (ev_okc "PathProverModel") = true := by decide +kernel
set_option maxRecDepth 100000 in
theorem ev_cc22_6 : ev_b22_6.all (ev_okc "PathProverModel") = true := by decide +kernel
set_option maxRecDepth 100000 in
theorem ev_cc22_7 : ev_b22_7.all (ev_okc "PathProverModel") = true := by decide +kernel
set_option maxRecDepth 100000 in
theorem ev_cc22_8 : ev_b22_8.all (ev_okc "PathProverModel") = true := by decide +kernel
theorem ev_cc22 : ev_b22.all (ev_okc "PathProverModel") = true := (ev_all ev_cc22_0 (ev_all ev_cc22_1 (ev_all ev_cc22_2 (ev_all ev_cc22_3 (ev_all ev_cc22_4 (ev_all ev_cc22_5 (ev_all ev_cc22_6 (ev_all ev_cc22_7 ev_cc22_8))))))))
set_option maxRecDepth 100000 in
theorem ev_cc23 : ev_b23.all (ev_okc "PathProverModel$Bits") = true := by decide +kernel
set_option maxRecDepth 100000 in
theorem ev_cc24 : ev_b24.all (ev_okc "PathProverLaw") = true := by decide +kernel
set_option maxRecDepth 100000 in
theorem ev_cc25_0 : ev_b25_0.all (ev_okc "PathProver") = true := by decide +kernel
set_option maxRecDepth 100000 in
theorem ev_cc25_1 : ev_b25_1.all (ev_okc "PathProver") = true := by decide +kernel
theorem ev_cc25 : ev_b25.all (ev_okc "PathProver") = true := (ev_all ev_cc25_0 ev_cc25_1)
set_option maxRecDepth 100000 in
theorem ev_cc26 : ev_b26.all (ev_okc "PathProver") = true := by decide +kernel
set_option maxRecDepth 100000 in
theorem ev_cc27_0 : ev_b27_0.all (ev_okc "PathProverModel") = true := by decide +kernel
set_option maxRecDepth 100000 in
theorem ev_cc27_1 : ev_b27_1.all (ev_okc "PathProverModel") = true := by decide +kernel
theorem ev_cc27 : ev_b27.all (ev_okc "PathProverModel") = true := (ev_all ev_cc27_0 ev_cc27_1)
set_option maxRecDepth 100000 in
theorem ev_cc28 : ev_b28.all (ev_okc "PathProverModel") = true := by decide +kernel
set_option maxRecDepth 100000 in
theorem ev_cc29 : ev_b29.all (ev_okc "PathProverLaw") = true := by decide +kernel
set_option maxRecDepth 100000 in
theorem ev_cc30 : ev_b30.all (ev_okc "PathProver") = true := by decide +kernel
set_option maxRecDepth 100000 in
theorem ev_cc31 : ev_b31.all (ev_okc "PathProverModel") = true := by decide +kernel
set_option maxRecDepth 100000 in
theorem ev_cc32 : ev_b32.all (ev_okc "PathProverModel") = true := by decide +kernel
set_option maxRecDepth 100000 in
theorem ev_cc33 : ev_b33.all (ev_okc "PathProverLaw") = true := by decide +kernel
set_option maxRecDepth 100000 in
theorem ev_cc34_0 : ev_b34_0.all (ev_okc "PathProver") = true := by decide +kernel
set_option maxRecDepth 100000 in
theorem ev_cc34_1 : ev_b34_1.all (ev_okc "PathProver") = true := by decide +kernel
theorem ev_cc34 : ev_b34.all (ev_okc "PathProver") = true := (ev_all ev_cc34_0 ev_cc34_1)
set_option maxRecDepth 100000 in
theorem ev_cc35_0 : ev_b35_0.all (ev_okc "PathProver$Parser") = true := by decide +kernel
set_option maxRecDepth 100000 in
theorem ev_cc35_1 : ev_b35_1.all (ev_okc "PathProver$Parser") = true := by decide +kernel
set_option maxRecDepth 100000 in
theorem ev_cc35_2 : ev_b35_2.all (ev_okc "PathProver$Parser") = true := by decide +kernel
theorem ev_cc35 : ev_b35.all (ev_okc "PathProver$Parser") = true := (ev_all ev_cc35_0 (ev_all ev_cc35_1 ev_cc35_2))
set_option maxRecDepth 100000 in
theorem ev_cc36_0 : ev_b36_0.all (ev_okc "PathProver$Model") = true := by decide +kernel
set_option maxRecDepth 100000 in
theorem ev_cc36_1 : ev_b36_1.all (ev_okc "PathProver$Model") = true := by decide +kernel
theorem ev_cc36 : ev_b36.all (ev_okc "PathProver$Model") = true := (ev_all ev_cc36_0 ev_cc36_1)
set_option maxRecDepth 100000 in
theorem ev_cc37 : ev_b37.all (ev_okc "PathProver$Rows") = true := by decide +kernel
set_option maxRecDepth 100000 in
theorem ev_cc38_0 : ev_b38_0.all (ev_okc "PathProver$Lexer") = true := by decide +kernel
set_option maxRecDepth 100000 in
theorem ev_cc38_1 : ev_b38_1.all (ev_okc "PathProver$Lexer") = true := by decide +kernel
theorem ev_cc38 : ev_b38.all (ev_okc "PathProver$Lexer") = true := (ev_all ev_cc38_0 ev_cc38_1)
set_option maxRecDepth 100000 in
theorem ev_cc39_0 : ev_b39_0.all (ev_okc "PathProver$Lexer") = true := by decide +kernel
set_option maxRecDepth 100000 in
theorem ev_cc39_1 : ev_b39_1.all (ev_okc "PathProver$Lexer") = true := by decide +kernel
theorem ev_cc39 : ev_b39.all (ev_okc "PathProver$Lexer") = true := (ev_all ev_cc39_0 ev_cc39_1)
set_option maxRecDepth 100000 in
theorem ev_cc40 : ev_b40.all (ev_okc "java/util/Arrays") = true := by decide +kernel
set_option maxRecDepth 100000 in
theorem ev_cc41_0 : ev_b41_0.all (ev_okc "PathProver$Lexer") = true := by decide +kernel
set_option maxRecDepth 100000 in
theorem ev_cc41_1 : ev_b41_1.all (ev_okc "PathProver$Lexer") = true := by decide +kernel
theorem ev_cc41 : ev_b41.all (ev_okc "PathProver$Lexer") = true := (ev_all ev_cc41_0 ev_cc41_1)
set_option maxRecDepth 100000 in
theorem ev_cc42_0 : ev_b42_0.all (ev_okc "PathProver$Lexer") = true := by decide +kernel
set_option maxRecDepth 100000 in
theorem ev_cc42_1 : ev_b42_1.all (ev_okc "PathProver$Lexer") = true := by decide +kernel
theorem ev_cc42 : ev_b42.all (ev_okc "PathProver$Lexer") = true := (ev_all ev_cc42_0 ev_cc42_1)
set_option maxRecDepth 100000 in
theorem ev_cc43_0 : ev_b43_0.all (ev_okc "PathProver$Lexer") = true := by decide +kernel
set_option maxRecDepth 100000 in
theorem ev_cc43_1 : ev_b43_1.all (ev_okc "PathProver$Lexer") = true := by decide +kernel
theorem ev_cc43 : ev_b43.all (ev_okc "PathProver$Lexer") = true := (ev_all ev_cc43_0 ev_cc43_1)
set_option maxRecDepth 100000 in
theorem ev_cc44 : ev_b44.all (ev_okc "PathProver$Parser") = true := by decide +kernel
set_option maxRecDepth 100000 in
theorem ev_cc45 : ev_b45.all (ev_okc "java/lang/Math") = true := by decide +kernel
set_option maxRecDepth 100000 in
theorem ev_cc46 : ev_b46.all (ev_okc "PathProver$Rows") = true := by decide +kernel
set_option maxRecDepth 100000 in
theorem ev_cc47 : ev_b47.all (ev_okc "PathProver$Parser") = true := by decide +kernel
set_option maxRecDepth 100000 in
theorem ev_cc48 : ev_b48.all (ev_okc "PathProver$Parser") = true := by decide +kernel
set_option maxRecDepth 100000 in
theorem ev_cc49_0 : ev_b49_0.all (ev_okc "PathProverModel") = true := by decide +kernel
set_option maxRecDepth 100000 in
theorem ev_cc49_1 : ev_b49_1.all (ev_okc "PathProverModel") = true := by decide +kernel
set_option maxRecDepth 100000 in
theorem ev_cc49_2 : ev_b49_2.all (ev_okc "PathProverModel") = true := by decide +kernel
theorem ev_cc49 : ev_b49.all (ev_okc "PathProverModel") = true := (ev_all ev_cc49_0 (ev_all ev_cc49_1 ev_cc49_2))
set_option maxRecDepth 100000 in
theorem ev_cc50_0 : ev_b50_0.all (ev_okc "PathProverModel") = true := by decide +kernel
set_option maxRecDepth 100000 in
theorem ev_cc50_1 : ev_b50_1.all (ev_okc "PathProverModel") = true := by decide +kernel
theorem ev_cc50 : ev_b50.all (ev_okc "PathProverModel") = true := (ev_all ev_cc50_0 ev_cc50_1)
set_option maxRecDepth 100000 in
theorem ev_cc51_0 : ev_b51_0.all (ev_okc "PathProverModel") = true := by decide +kernel
set_option maxRecDepth 100000 in
theorem ev_cc51_1 : ev_b51_1.all (ev_okc "PathProverModel") = true := by decide +kernel
set_option maxRecDepth 100000 in
theorem ev_cc51_2 : ev_b51_2.all (ev_okc "PathProverModel") = true := by decide +kernel
set_option maxRecDepth 100000 in
theorem ev_cc51_3 : ev_b51_3.all (ev_okc "PathProverModel") = true := by decide +kernel
set_option maxRecDepth 100000 in
theorem ev_cc51_4 : ev_b51_4.all (ev_okc "PathProverModel") = true := by decide +kernel
theorem ev_cc51 : ev_b51.all (ev_okc "PathProverModel") = true := (ev_all ev_cc51_0 (ev_all ev_cc51_1 (ev_all ev_cc51_2 (ev_all ev_cc51_3 ev_cc51_4))))
set_option maxRecDepth 100000 in
theorem ev_cc52_0 : ev_b52_0.all (ev_okc "PathProverModel") = true := by decide +kernel
set_option maxRecDepth 100000 in
theorem ev_cc52_1 : ev_b52_1.all (ev_okc "PathProverModel") = true := by decide +kernel
theorem ev_cc52 : ev_b52.all (ev_okc "PathProverModel") = true := (ev_all ev_cc52_0 ev_cc52_1)
set_option maxRecDepth 100000 in
theorem ev_cc53_0 : ev_b53_0.all (ev_okc "PathProverModel") = true := by decide +kernel
set_option maxRecDepth 100000 in
theorem ev_cc53_1 : ev_b53_1.all (ev_okc "PathProverModel") = true := by decide +kernel
set_option maxRecDepth 100000 in
theorem ev_cc53_2 : ev_b53_2.all (ev_okc "PathProverModel") = true := by decide +kernel
theorem ev_cc53 : ev_b53.all (ev_okc "PathProverModel") = true := (ev_all ev_cc53_0 (ev_all ev_cc53_1 ev_cc53_2))
