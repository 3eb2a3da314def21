/-! Printed by wip/whole/gen8.py: the methods' calls are words of the tables -/
set_option maxRecDepth 100000 in
theorem ev_cc53_0 : ev_b53_0.all (ev_okc "PathProverModel") = true := by decide +kernel
set_option maxRecDepth 100000 in
theorem ev_cc53_1 : ev_b53_1.all (ev_okc "PathProverModel") = true := by decide +kernel
set_option maxRecDepth 100000 in
theorem ev_cc53_2 : ev_b53_2.all (ev_okc "PathProverModel") = true := by decide +kernel
set_option maxRecDepth 100000 in
theorem ev_cc53_3 : ev_b53_3.all (ev_okc "PathProverModel") = true := by decide +kernel
theorem ev_cc53 : ev_b53.all (ev_okc "PathProverModel") = true := (ev_all ev_cc53_0 (ev_all ev_cc53_1 (ev_all ev_cc53_2 ev_cc53_3)))
set_option maxRecDepth 100000 in
theorem ev_cc54 : ev_b54.all (ev_okc "PathProverModel") = true := by decide +kernel
set_option maxRecDepth 100000 in
theorem ev_cc55 : ev_b55.all (ev_okc "PathProverModel") = true := by decide +kernel
set_option maxRecDepth 100000 in
theorem ev_cc56 : ev_b56.all (ev_okc "PathProverModel") = true := by decide +kernel
set_option maxRecDepth 100000 in
theorem ev_cc57 : ev_b57.all (ev_okc "PathProver") = true := by decide +kernel
set_option maxRecDepth 100000 in
theorem ev_cc58 : ev_b58.all (ev_okc "PathProverModel") = true := by decide +kernel
set_option maxRecDepth 100000 in
theorem ev_cc59 : ev_b59.all (ev_okc "PathProverLaw") = true := by decide +kernel
set_option maxRecDepth 100000 in
theorem ev_cc60 : ev_b60.all (ev_okc "PathProver") = true := by decide +kernel
set_option maxRecDepth 100000 in
theorem ev_cc61 : ev_b61.all (ev_okc "PathProver") = true := by decide +kernel
set_option maxRecDepth 100000 in
theorem ev_cc62_0 : ev_b62_0.all (ev_okc "PathProverModel") = true := by decide +kernel
set_option maxRecDepth 100000 in
theorem ev_cc62_1 : ev_b62_1.all (ev_okc "PathProverModel") = true := by decide +kernel
theorem ev_cc62 : ev_b62.all (ev_okc "PathProverModel") = true := (ev_all ev_cc62_0 ev_cc62_1)
set_option maxRecDepth 100000 in
theorem ev_cc63 : ev_b63.all (ev_okc "PathProverModel") = true := by decide +kernel
set_option maxRecDepth 100000 in
theorem ev_cc64 : ev_b64.all (ev_okc "PathProver") = true := by decide +kernel
set_option maxRecDepth 100000 in
theorem ev_cc65 : ev_b65.all (ev_okc "PathProverLaw") = true := by decide +kernel
set_option maxRecDepth 100000 in
theorem ev_cc66_0 : ev_b66_0.all (ev_okc "PathProver") = true := by decide +kernel
set_option maxRecDepth 100000 in
theorem ev_cc66_1 : ev_b66_1.all (ev_okc "PathProver") = true := by decide +kernel
theorem ev_cc66 : ev_b66.all (ev_okc "PathProver") = true := (ev_all ev_cc66_0 ev_cc66_1)
set_option maxRecDepth 100000 in
theorem ev_cc67_0 : ev_b67_0.all (ev_okc "PathProverModel") = true := by decide +kernel
set_option maxRecDepth 100000 in
theorem ev_cc67_1 : ev_b67_1.all (ev_okc "PathProverModel") = true := by decide +kernel
set_option maxRecDepth 100000 in
theorem ev_cc67_2 : ev_b67_2.all (ev_okc "PathProverModel") = true := by decide +kernel
set_option maxRecDepth 100000 in
theorem ev_cc67_3 : ev_b67_3.all (ev_okc "PathProverModel") = true := by decide +kernel
theorem ev_cc67 : ev_b67.all (ev_okc "PathProverModel") = true := (ev_all ev_cc67_0 (ev_all ev_cc67_1 (ev_all ev_cc67_2 ev_cc67_3)))
set_option maxRecDepth 100000 in
theorem ev_cc68 : ev_b68.all (ev_okc "PathProverLaw") = true := by decide +kernel
set_option maxRecDepth 100000 in
theorem ev_cc69_0 : ev_b69_0.all (ev_okc "PathProver") = true := by decide +kernel
set_option maxRecDepth 100000 in
theorem ev_cc69_1 : ev_b69_1.all (ev_okc "PathProver") = true := by decide +kernel
theorem ev_cc69 : ev_b69.all (ev_okc "PathProver") = true := (ev_all ev_cc69_0 ev_cc69_1)
set_option maxRecDepth 100000 in
theorem ev_cc70_0 : ev_b70_0.all (ev_okc "PathProverModel") = true := by decide +kernel
set_option maxRecDepth 100000 in
theorem ev_cc70_1 : ev_b70_1.all (ev_okc "PathProverModel") = true := by decide +kernel
theorem ev_cc70 : ev_b70.all (ev_okc "PathProverModel") = true := (ev_all ev_cc70_0 ev_cc70_1)
set_option maxRecDepth 100000 in
theorem ev_cc71 : ev_b71.all (ev_okc "PathProverLaw") = true := by decide +kernel
set_option maxRecDepth 100000 in
theorem ev_cc72_0 : ev_b72_0.all (ev_okc "PathProver") = true := by decide +kernel
set_option maxRecDepth 100000 in
theorem ev_cc72_1 : ev_b72_1.all (ev_okc "PathProver") = true := by decide +kernel
theorem ev_cc72 : ev_b72.all (ev_okc "PathProver") = true := (ev_all ev_cc72_0 ev_cc72_1)
set_option maxRecDepth 100000 in
theorem ev_cc73_0 : ev_b73_0.all (ev_okc "PathProverModel") = true := by decide +kernel
set_option maxRecDepth 100000 in
theorem ev_cc73_1 : ev_b73_1.all (ev_okc "PathProverModel") = true := by decide +kernel
set_option maxRecDepth 100000 in
theorem ev_cc73_2 : ev_b73_2.all (ev_okc "PathProverModel") = true := by decide +kernel
set_option maxRecDepth 100000 in
theorem ev_cc73_3 : ev_b73_3.all (ev_okc "PathProverModel") = true := by decide +kernel
theorem ev_cc73 : ev_b73.all (ev_okc "PathProverModel") = true := (ev_all ev_cc73_0 (ev_all ev_cc73_1 (ev_all ev_cc73_2 ev_cc73_3)))
set_option maxRecDepth 100000 in
theorem ev_cc74 : ev_b74.all (ev_okc "PathProverLaw") = true := by decide +kernel
set_option maxRecDepth 100000 in
theorem ev_cc75 : ev_b75.all (ev_okc "PathProver") = true := by decide +kernel
set_option maxRecDepth 100000 in
theorem ev_cc76 : ev_b76.all (ev_okc "PathProver") = true := by decide +kernel
set_option maxRecDepth 100000 in
theorem ev_cc77 : ev_b77.all (ev_okc "PathProverModel") = true := by decide +kernel
set_option maxRecDepth 100000 in
theorem ev_cc78 : ev_b78.all (ev_okc "PathProverLaw") = true := by decide +kernel
set_option maxRecDepth 100000 in
theorem ev_cc79 : ev_b79.all (ev_okc "PathProver") = true := by decide +kernel
set_option maxRecDepth 100000 in
theorem ev_cc80_0 : ev_b80_0.all (ev_okc "PathProverModel") = true := by decide +kernel
set_option maxRecDepth 100000 in
theorem ev_cc80_1 : ev_b80_1.all (ev_okc "PathProverModel") = true := by decide +kernel
theorem ev_cc80 : ev_b80.all (ev_okc "PathProverModel") = true := (ev_all ev_cc80_0 ev_cc80_1)
set_option maxRecDepth 100000 in
theorem ev_cc81 : ev_b81.all (ev_okc "PathProverLaw") = true := by decide +kernel
set_option maxRecDepth 100000 in
theorem ev_cc82 : ev_b82.all (ev_okc "PathProver") = true := by decide +kernel
set_option maxRecDepth 100000 in
theorem ev_cc83_0 : ev_b83_0.all (ev_okc "PathProverModel") = true := by decide +kernel
set_option maxRecDepth 100000 in
theorem ev_cc83_1 : ev_b83_1.all (ev_okc "PathProverModel") = true := by decide +kernel
theorem ev_cc83 : ev_b83.all (ev_okc "PathProverModel") = true := (ev_all ev_cc83_0 ev_cc83_1)
set_option maxRecDepth 100000 in
theorem ev_cc84 : ev_b84.all (ev_okc "PathProverLaw") = true := by decide +kernel
set_option maxRecDepth 100000 in
theorem ev_cc85 : ev_b85.all (ev_okc "PathProver") = true := by decide +kernel
set_option maxRecDepth 100000 in
theorem ev_cc86_0 : ev_b86_0.all (ev_okc "PathProverModel") = true := by decide +kernel
set_option maxRecDepth 100000 in
theorem ev_cc86_1 : ev_b86_1.all (ev_okc "PathProverModel") = true := by decide +kernel
theorem ev_cc86 : ev_b86.all (ev_okc "PathProverModel") = true := (ev_all ev_cc86_0 ev_cc86_1)
set_option maxRecDepth 100000 in
theorem ev_cc87 : ev_b87.all (ev_okc "PathProverLaw") = true := by decide +kernel
set_option maxRecDepth 100000 in
theorem ev_cc88 : ev_b88.all (ev_okc "PathProver") = true := by decide +kernel
set_option maxRecDepth 100000 in
theorem ev_cc89_0 : ev_b89_0.all (ev_okc "PathProverModel") = true := by decide +kernel
set_option maxRecDepth 100000 in
theorem ev_cc89_1 : ev_b89_1.all (ev_okc "PathProverModel") = true := by decide +kernel
theorem ev_cc89 : ev_b89.all (ev_okc "PathProverModel") = true := (ev_all ev_cc89_0 ev_cc89_1)
set_option maxRecDepth 100000 in
theorem ev_cc90 : ev_b90.all (ev_okc "PathProverLaw") = true := by decide +kernel
set_option maxRecDepth 100000 in
theorem ev_cc91 : ev_b91.all (ev_okc "PathProver") = true := by decide +kernel
set_option maxRecDepth 100000 in
theorem ev_cc92 : ev_b92.all (ev_okc "PathProverModel") = true := by decide +kernel
set_option maxRecDepth 100000 in
theorem ev_cc93 : ev_b93.all (ev_okc "PathProverLaw") = true := by decide +kernel
set_option maxRecDepth 100000 in
theorem ev_cc94 : ev_b94.all (ev_okc "PathProver") = true := by decide +kernel
set_option maxRecDepth 100000 in
theorem ev_cc95 : ev_b95.all (ev_okc "PathProverModel") = true := by decide +kernel
set_option maxRecDepth 100000 in
theorem ev_cc96 : ev_b96.all (ev_okc "java/lang/Math") = true := by decide +kernel
set_option maxRecDepth 100000 in
theorem ev_cc97 : ev_b97.all (ev_okc "java/lang/Math") = true := by decide +kernel
set_option maxRecDepth 100000 in
theorem ev_cc98 : ev_b98.all (ev_okc "java/util/Arrays") = true := by decide +kernel
set_option maxRecDepth 100000 in
theorem ev_cc99 : ev_b99.all (ev_okc "java/util/Arrays") = true := by decide +kernel
set_option maxRecDepth 100000 in
theorem ev_cc100 : ev_b100.all (ev_okc "java/util/Arrays") = true := by decide +kernel
set_option maxRecDepth 100000 in
theorem ev_cc101 : ev_b101.all (ev_okc "java/util/Arrays") = true := by decide +kernel
set_option maxRecDepth 100000 in
theorem ev_cc102 : ev_b102.all (ev_okc "java/util/Arrays") = true := by decide +kernel
set_option maxRecDepth 100000 in
theorem ev_cc103_0 : ev_b103_0.all (ev_okc "java/lang/Long") = true := by decide +kernel
set_option maxRecDepth 100000 in
theorem ev_cc103_1 : ev_b103_1.all (ev_okc "java/lang/Long") = true := by decide +kernel
theorem ev_cc103 : ev_b103.all (ev_okc "java/lang/Long") = true := (ev_all ev_cc103_0 ev_cc103_1)
set_option maxRecDepth 100000 in
theorem ev_cc104 : ev_b104.all (ev_okc "java/lang/Long") = true := by decide +kernel
set_option maxRecDepth 100000 in
theorem ev_cc105_0 : ev_b105_0.all (ev_okc "java/lang/Integer") = true := by decide +kernel
set_option maxRecDepth 100000 in
theorem ev_cc105_1 : ev_b105_1.all (ev_okc "java/lang/Integer") = true := by decide +kernel
theorem ev_cc105 : ev_b105.all (ev_okc "java/lang/Integer") = true := (ev_all ev_cc105_0 ev_cc105_1)
set_option maxRecDepth 100000 in
theorem ev_cc106_0 : ev_b106_0.all (ev_okc "java/lang/Integer") = true := by decide +kernel
set_option maxRecDepth 100000 in
theorem ev_cc106_1 : ev_b106_1.all (ev_okc "java/lang/Integer") = true := by decide +kernel
theorem ev_cc106 : ev_b106.all (ev_okc "java/lang/Integer") = true := (ev_all ev_cc106_0 ev_cc106_1)
set_option maxRecDepth 100000 in
theorem ev_cc107 : ev_b107.all (ev_okc "java/lang/Integer") = true := by decide +kernel
set_option maxRecDepth 100000 in
theorem ev_cc108 : ev_b108.all (ev_okc "java/lang/String") = true := by decide +kernel
set_option maxRecDepth 100000 in
theorem ev_cc109 : ev_b109.all (ev_okc "java/lang/String") = true := by decide +kernel
set_option maxRecDepth 100000 in
theorem ev_cc110 : ev_b110.all (ev_okc "java/lang/StringLatin1") = true := by decide +kernel
set_option maxRecDepth 100000 in
theorem ev_cc111 : ev_b111.all (ev_okc "java/lang/StringLatin1") = true := by decide +kernel
set_option maxRecDepth 100000 in
theorem ev_cc112 : ev_b112.all (ev_okc "java/lang/StringLatin1") = true := by decide +kernel
set_option maxRecDepth 100000 in
theorem ev_cc113 : ev_b113.all (ev_okc "java/lang/String") = true := by decide +kernel
set_option maxRecDepth 100000 in
theorem ev_cc114 : ev_b114.all (ev_okc "java/lang/StringLatin1") = true := by decide +kernel
set_option maxRecDepth 100000 in
theorem ev_cc115 : ev_b115.all (ev_okc "PathProver$Rows") = true := by decide +kernel
set_option maxRecDepth 100000 in
theorem ev_cc116 : ev_b116.all (ev_okc "PathProver$Rows") = true := by decide +kernel
set_option maxRecDepth 100000 in
theorem ev_cc117 : ev_b117.all (ev_okc "PathProver$Lexer") = true := by decide +kernel
set_option maxRecDepth 100000 in
theorem ev_cc118 : ev_b118.all (ev_okc "PathProver$Lexer") = true := by decide +kernel
set_option maxRecDepth 100000 in
theorem ev_cc119 : ev_b119.all (ev_okc "PathProver$Lexer") = true := by decide +kernel
set_option maxRecDepth 100000 in
theorem ev_cc120_0 : ev_b120_0.all (ev_okc "PathProver$Lexer") = true := by decide +kernel
set_option maxRecDepth 100000 in
theorem ev_cc120_1 : ev_b120_1.all (ev_okc "PathProver$Lexer") = true := by decide +kernel
theorem ev_cc120 : ev_b120.all (ev_okc "PathProver$Lexer") = true := (ev_all ev_cc120_0 ev_cc120_1)
set_option maxRecDepth 100000 in
theorem ev_cc121 : ev_b121.all (ev_okc "PathProver$Lexer") = true := by decide +kernel
set_option maxRecDepth 100000 in
theorem ev_cc122_0 : ev_b122_0.all (ev_okc "PathProver$Lexer") = true := by decide +kernel
set_option maxRecDepth 100000 in
theorem ev_cc122_1 : ev_b122_1.all (ev_okc "PathProver$Lexer") = true := by decide +kernel
theorem ev_cc122 : ev_b122.all (ev_okc "PathProver$Lexer") = true := (ev_all ev_cc122_0 ev_cc122_1)
set_option maxRecDepth 100000 in
theorem ev_cc123_0 : ev_b123_0.all (ev_okc "PathProver$Lexer") = true := by decide +kernel
set_option maxRecDepth 100000 in
theorem ev_cc123_1 : ev_b123_1.all (ev_okc "PathProver$Lexer") = true := by decide +kernel
set_option maxRecDepth 100000 in
theorem ev_cc123_2 : ev_b123_2.all (ev_okc "PathProver$Lexer") = true := by decide +kernel
theorem ev_cc123 : ev_b123.all (ev_okc "PathProver$Lexer") = true := (ev_all ev_cc123_0 (ev_all ev_cc123_1 ev_cc123_2))
set_option maxRecDepth 100000 in
theorem ev_cc124 : ev_b124.all (ev_okc "PathProver$Lexer") = true := by decide +kernel
set_option maxRecDepth 100000 in
theorem ev_cc125_0 : ev_b125_0.all (ev_okc "PathProver$Model") = true := by decide +kernel
set_option maxRecDepth 100000 in
theorem ev_cc125_1 : ev_b125_1.all (ev_okc "PathProver$Model") = true := by decide +kernel
set_option maxRecDepth 100000 in
theorem ev_cc125_2 : ev_b125_2.all (ev_okc "PathProver$Model") = true := by decide +kernel
theorem ev_cc125 : ev_b125.all (ev_okc "PathProver$Model") = true := (ev_all ev_cc125_0 (ev_all ev_cc125_1 ev_cc125_2))
set_option maxRecDepth 100000 in
theorem ev_cc126 : ev_b126.all (ev_okc "PathProver$Model") = true := by decide +kernel
set_option maxRecDepth 100000 in
theorem ev_cc127 : ev_b127.all (ev_okc "PathProver$Model") = true := by decide +kernel
set_option maxRecDepth 100000 in
theorem ev_cc128 : ev_b128.all (ev_okc "PathProver$Model") = true := by decide +kernel
set_option maxRecDepth 100000 in
theorem ev_cc129_0 : ev_b129_0.all (ev_okc "PathProver$Model") = true := by decide +kernel
set_option maxRecDepth 100000 in
theorem ev_cc129_1 : ev_b129_1.all (ev_okc "PathProver$Model") = true := by decide +kernel
set_option maxRecDepth 100000 in
theorem ev_cc129_2 : ev_b129_2.all (ev_okc "PathProver$Model") = true := by decide +kernel
set_option maxRecDepth 100000 in
theorem ev_cc129_3 : ev_b129_3.all (ev_okc "PathProver$Model") = true := by decide +kernel
theorem ev_cc129 : ev_b129.all (ev_okc "PathProver$Model") = true := (ev_all ev_cc129_0 (ev_all ev_cc129_1 (ev_all ev_cc129_2 ev_cc129_3)))
set_option maxRecDepth 100000 in
theorem ev_cc130 : ev_b130.all (ev_okc "PathProver$Model") = true := by decide +kernel
set_option maxRecDepth 100000 in
theorem ev_cc131 : ev_b131.all (ev_okc "PathProver$Model") = true := by decide +kernel
set_option maxRecDepth 100000 in
theorem ev_cc132_0 : ev_b132_0.all (ev_okc "PathProver$Model") = true := by decide +kernel
set_option maxRecDepth 100000 in
theorem ev_cc132_1 : ev_b132_1.all (ev_okc "PathProver$Model") = true := by decide +kernel
theorem ev_cc132 : ev_b132.all (ev_okc "PathProver$Model") = true := (ev_all ev_cc132_0 ev_cc132_1)
set_option maxRecDepth 100000 in
theorem ev_cc133_0 : ev_b133_0.all (ev_okc "PathProver$Model") = true := by decide +kernel
set_option maxRecDepth 100000 in
theorem ev_cc133_1 : ev_b133_1.all (ev_okc "PathProver$Model") = true := by decide +kernel
set_option maxRecDepth 100000 in
theorem ev_cc133_2 : ev_b133_2.all (ev_okc "PathProver$Model") = true := by decide +kernel
set_option maxRecDepth 100000 in
theorem ev_cc133_3 : ev_b133_3.all (ev_okc "PathProver$Model") = true := by decide +kernel
theorem ev_cc133 : ev_b133.all (ev_okc "PathProver$Model") = true := (ev_all ev_cc133_0 (ev_all ev_cc133_1 (ev_all ev_cc133_2 ev_cc133_3)))
set_option maxRecDepth 100000 in
theorem ev_cc134_0 : ev_b134_0.all (ev_okc "PathProver$Model") = true := by decide +kernel
set_option maxRecDepth 100000 in
theorem ev_cc134_1 : ev_b134_1.all (ev_okc "PathProver$Model") = true := by decide +kernel
theorem ev_cc134 : ev_b134.all (ev_okc "PathProver$Model") = true := (ev_all ev_cc134_0 ev_cc134_1)
set_option maxRecDepth 100000 in
theorem ev_cc135_0 : ev_b135_0.all (ev_okc "PathProver$Model") = true := by decide +kernel
set_option maxRecDepth 100000 in
theorem ev_cc135_1 : ev_b135_1.all (ev_okc "PathProver$Model") = true := by decide +kernel
theorem ev_cc135 : ev_b135.all (ev_okc "PathProver$Model") = true := (ev_all ev_cc135_0 ev_cc135_1)
set_option maxRecDepth 100000 in
theorem ev_cc136 : ev_b136.all (ev_okc "PathProver$Model") = true := by decide +kernel
set_option maxRecDepth 100000 in
theorem ev_cc137 : ev_b137.all (ev_okc "PathProver$Model") = true := by decide +kernel
set_option maxRecDepth 100000 in
theorem ev_cc138_0 : ev_b138_0.all (ev_okc "PathProver$Parser") = true := by decide +kernel
set_option maxRecDepth 100000 in
theorem ev_cc138_1 : ev_b138_1.all (ev_okc "PathProver$Parser") = true := by decide +kernel
set_option maxRecDepth 100000 in
theorem ev_cc138_2 : ev_b138_2.all (ev_okc "PathProver$Parser") = true := by decide +kernel
theorem ev_cc138 : ev_b138.all (ev_okc "PathProver$Parser") = true := (ev_all ev_cc138_0 (ev_all ev_cc138_1 ev_cc138_2))
