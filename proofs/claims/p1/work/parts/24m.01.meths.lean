/-! Printed by wip/whole/gen8.py: further methods -/
set_option maxRecDepth 100000 in
theorem ev_m60 : ev_Mok 60 := ev_mk (N := (⟨"PathProver", "check", "(I)Z"⟩, prog_1_method_7_code, 2, (some .boolean), [], 7146)) (M := (2, (some .boolean), [], ev_b60)) [] rfl rfl rfl rfl (by decide +kernel) ev_k60 ev_cc60
set_option maxRecDepth 100000 in
theorem ev_m61 : ev_Mok 61 := ev_mk (N := (⟨"PathProver", "needNumber", "(II)V"⟩, prog_1_method_22_code, 3, none, [], 7150)) (M := (3, none, [], ev_b61)) [] rfl rfl rfl rfl (by decide +kernel) ev_k61 ev_cc61
set_option maxRecDepth 100000 in
theorem ev_m62 : ev_Mok 62 := ev_mk (N := (⟨"PathProverModel", "check", "(I)Z"⟩, prog_15_method_111_code, 4, (some .boolean), [], 16143)) (M := (4, (some .boolean), [], ev_b62)) [] rfl rfl rfl rfl (by decide +kernel) ev_k62 ev_cc62
set_option maxRecDepth 100000 in
theorem ev_m63 : ev_Mok 63 := ev_mk (N := (⟨"PathProverModel", "noSpec", "(I)Z"⟩, prog_15_method_107_code, 2, (some .boolean), [], 16147)) (M := (2, (some .boolean), [], ev_b63)) [] rfl rfl rfl rfl (by decide +kernel) ev_k63 ev_cc63
set_option maxRecDepth 100000 in
theorem ev_m64 : ev_Mok 64 := ev_mk (N := (⟨"PathProver", "needModel", "()V"⟩, prog_1_method_24_code, 1, none, [], 7154)) (M := (1, none, [], ev_b64)) [] rfl rfl rfl rfl (by decide +kernel) ev_k64 ev_cc64
set_option maxRecDepth 100000 in
theorem ev_m65 : ev_Mok 65 := ev_mk (N := (⟨"PathProverLaw", "states", "(LPathProver;II[J)I"⟩, method_7_code, 5, (some .int), [((0), (10), (13), (19)), ((0), (10), (17), (31))], 12039)) (M := (5, (some .int), [(0, 10, 13, 0), (0, 10, 17, 1)], ev_b65)) [5049, 7142] rfl rfl rfl rfl (by decide +kernel) ev_k65 ev_cc65
set_option maxRecDepth 100000 in
theorem ev_m66 : ev_Mok 66 := ev_mk (N := (⟨"PathProver", "states", "(II)I"⟩, prog_1_method_8_code, 3, (some .int), [], 12043)) (M := (3, (some .int), [], ev_b66)) [] rfl rfl rfl rfl (by decide +kernel) ev_k66 ev_cc66
set_option maxRecDepth 100000 in
theorem ev_m67 : ev_Mok 67 := ev_mk (N := (⟨"PathProverModel", "states", "(II)I"⟩, prog_15_method_112_code, 7, (some .int), [], 16187)) (M := (7, (some .int), [], ev_b67)) [] rfl rfl rfl rfl (by decide +kernel) ev_k67 ev_cc67
set_option maxRecDepth 100000 in
theorem ev_m68 : ev_Mok 68 := ev_mk (N := (⟨"PathProverLaw", "count", "(LPathProver;I[J)I"⟩, method_8_code, 4, (some .int), [((0), (9), (12), (19)), ((0), (9), (15), (31))], 12058)) (M := (4, (some .int), [(0, 9, 12, 0), (0, 9, 15, 1)], ev_b68)) [5049, 7142] rfl rfl rfl rfl (by decide +kernel) ev_k68 ev_cc68
set_option maxRecDepth 100000 in
theorem ev_m69 : ev_Mok 69 := ev_mk (N := (⟨"PathProver", "count", "(I)I"⟩, prog_1_method_9_code, 2, (some .int), [], 12062)) (M := (2, (some .int), [], ev_b69)) [] rfl rfl rfl rfl (by decide +kernel) ev_k69 ev_cc69
set_option maxRecDepth 100000 in
theorem ev_m70 : ev_Mok 70 := ev_mk (N := (⟨"PathProverModel", "count", "(I)I"⟩, prog_15_method_113_code, 2, (some .int), [], 16195)) (M := (2, (some .int), [], ev_b70)) [] rfl rfl rfl rfl (by decide +kernel) ev_k70 ev_cc70
set_option maxRecDepth 100000 in
theorem ev_m71 : ev_Mok 71 := ev_mk (N := (⟨"PathProverLaw", "show", "(LPathProver;I[J)I"⟩, method_9_code, 4, (some .int), [((0), (9), (12), (19)), ((0), (9), (15), (31)), ((0), (9), (18), (25)), ((0), (9), (21), (13))], 12066)) (M := (4, (some .int), [(0, 9, 12, 0), (0, 9, 15, 1), (0, 9, 18, 2), (0, 9, 21, 3)], ev_b71)) [5049, 7142, 5072, 4201] rfl rfl rfl rfl (by decide +kernel) ev_k71 ev_cc71
set_option maxRecDepth 100000 in
theorem ev_m72 : ev_Mok 72 := ev_mk (N := (⟨"PathProver", "show", "(I)I"⟩, prog_1_method_10_code, 4, (some .int), [], 12070)) (M := (4, (some .int), [], ev_b72)) [] rfl rfl rfl rfl (by decide +kernel) ev_k72 ev_cc72
set_option maxRecDepth 100000 in
theorem ev_m73 : ev_Mok 73 := ev_mk (N := (⟨"PathProverModel", "show", "(I)I"⟩, prog_15_method_120_code, 6, (some .int), [((132), (185), (205), (453)), ((186), (201), (205), (453))], 16199)) (M := (6, (some .int), [(132, 185, 205, 3), (186, 201, 205, 3)], ev_b73)) [13206, 13206] rfl rfl rfl rfl (by decide +kernel) ev_k73 ev_cc73
set_option maxRecDepth 100000 in
theorem ev_m74 : ev_Mok 74 := ev_mk (N := (⟨"PathProverLaw", "pick", "(LPathProver;I[J)I"⟩, method_10_code, 4, (some .int), [((0), (9), (12), (19)), ((0), (9), (15), (31)), ((0), (9), (18), (13))], 12102)) (M := (4, (some .int), [(0, 9, 12, 0), (0, 9, 15, 1), (0, 9, 18, 3)], ev_b74)) [5049, 7142, 4201] rfl rfl rfl rfl (by decide +kernel) ev_k74 ev_cc74
set_option maxRecDepth 100000 in
theorem ev_m75 : ev_Mok 75 := ev_mk (N := (⟨"PathProver", "pick", "(I)I"⟩, prog_1_method_11_code, 2, (some .int), [], 12106)) (M := (2, (some .int), [], ev_b75)) [] rfl rfl rfl rfl (by decide +kernel) ev_k75 ev_cc75
set_option maxRecDepth 100000 in
theorem ev_m76 : ev_Mok 76 := ev_mk (N := (⟨"PathProver", "needPlain", "(I)V"⟩, prog_1_method_23_code, 2, none, [], 12110)) (M := (2, none, [], ev_b76)) [] rfl rfl rfl rfl (by decide +kernel) ev_k76 ev_cc76
set_option maxRecDepth 100000 in
theorem ev_m77 : ev_Mok 77 := ev_mk (N := (⟨"PathProverModel", "pick", "(I)I"⟩, prog_15_method_126_code, 2, (some .int), [], 17003)) (M := (2, (some .int), [], ev_b77)) [] rfl rfl rfl rfl (by decide +kernel) ev_k77 ev_cc77
set_option maxRecDepth 100000 in
theorem ev_m78 : ev_Mok 78 := ev_mk (N := (⟨"PathProverLaw", "first", "(LPathProver;I[J)I"⟩, method_11_code, 4, (some .int), [((0), (9), (12), (19)), ((0), (9), (15), (31)), ((0), (9), (18), (13))], 12118)) (M := (4, (some .int), [(0, 9, 12, 0), (0, 9, 15, 1), (0, 9, 18, 3)], ev_b78)) [5049, 7142, 4201] rfl rfl rfl rfl (by decide +kernel) ev_k78 ev_cc78
set_option maxRecDepth 100000 in
theorem ev_m79 : ev_Mok 79 := ev_mk (N := (⟨"PathProver", "first", "(I)I"⟩, prog_1_method_12_code, 2, (some .int), [], 12122)) (M := (2, (some .int), [], ev_b79)) [] rfl rfl rfl rfl (by decide +kernel) ev_k79 ev_cc79
set_option maxRecDepth 100000 in
theorem ev_m80 : ev_Mok 80 := ev_mk (N := (⟨"PathProverModel", "first", "(I)I"⟩, prog_15_method_127_code, 4, (some .int), [], 17011)) (M := (4, (some .int), [], ev_b80)) [] rfl rfl rfl rfl (by decide +kernel) ev_k80 ev_cc80
set_option maxRecDepth 100000 in
theorem ev_m81 : ev_Mok 81 := ev_mk (N := (⟨"PathProverLaw", "step", "(LPathProver;I[J)I"⟩, method_12_code, 4, (some .int), [((0), (9), (12), (19)), ((0), (9), (15), (31)), ((0), (9), (18), (25)), ((0), (9), (21), (13))], 12133)) (M := (4, (some .int), [(0, 9, 12, 0), (0, 9, 15, 1), (0, 9, 18, 2), (0, 9, 21, 3)], ev_b81)) [5049, 7142, 5072, 4201] rfl rfl rfl rfl (by decide +kernel) ev_k81 ev_cc81
set_option maxRecDepth 100000 in
theorem ev_m82 : ev_Mok 82 := ev_mk (N := (⟨"PathProver", "step", "(I)I"⟩, prog_1_method_13_code, 2, (some .int), [], 12137)) (M := (2, (some .int), [], ev_b82)) [] rfl rfl rfl rfl (by decide +kernel) ev_k82 ev_cc82
set_option maxRecDepth 100000 in
theorem ev_m83 : ev_Mok 83 := ev_mk (N := (⟨"PathProverModel", "step", "(I)I"⟩, prog_15_method_128_code, 4, (some .int), [], 17015)) (M := (4, (some .int), [], ev_b83)) [] rfl rfl rfl rfl (by decide +kernel) ev_k83 ev_cc83
set_option maxRecDepth 100000 in
theorem ev_m84 : ev_Mok 84 := ev_mk (N := (⟨"PathProverLaw", "value", "(LPathProver;I[J)I"⟩, method_13_code, 4, (some .int), [((0), (9), (12), (19)), ((0), (9), (15), (31)), ((0), (9), (18), (25))], 12149)) (M := (4, (some .int), [(0, 9, 12, 0), (0, 9, 15, 1), (0, 9, 18, 2)], ev_b84)) [5049, 7142, 5072] rfl rfl rfl rfl (by decide +kernel) ev_k84 ev_cc84
set_option maxRecDepth 100000 in
theorem ev_m85 : ev_Mok 85 := ev_mk (N := (⟨"PathProver", "value", "(I)I"⟩, prog_1_method_14_code, 2, (some .int), [], 12153)) (M := (2, (some .int), [], ev_b85)) [] rfl rfl rfl rfl (by decide +kernel) ev_k85 ev_cc85
set_option maxRecDepth 100000 in
theorem ev_m86 : ev_Mok 86 := ev_mk (N := (⟨"PathProverModel", "value", "(I)I"⟩, prog_15_method_129_code, 3, (some .int), [], 17019)) (M := (3, (some .int), [], ev_b86)) [] rfl rfl rfl rfl (by decide +kernel) ev_k86 ev_cc86
set_option maxRecDepth 100000 in
theorem ev_m87 : ev_Mok 87 := ev_mk (N := (⟨"PathProverLaw", "holds", "(LPathProver;I[J)I"⟩, method_14_code, 4, (some .int), [((0), (16), (19), (19)), ((0), (16), (22), (31)), ((0), (16), (25), (25))], 12163)) (M := (4, (some .int), [(0, 16, 19, 0), (0, 16, 22, 1), (0, 16, 25, 2)], ev_b87)) [5049, 7142, 5072] rfl rfl rfl rfl (by decide +kernel) ev_k87 ev_cc87
set_option maxRecDepth 100000 in
theorem ev_m88 : ev_Mok 88 := ev_mk (N := (⟨"PathProver", "holds", "(I)Z"⟩, prog_1_method_15_code, 2, (some .boolean), [], 12167)) (M := (2, (some .boolean), [], ev_b88)) [] rfl rfl rfl rfl (by decide +kernel) ev_k88 ev_cc88
set_option maxRecDepth 100000 in
theorem ev_m89 : ev_Mok 89 := ev_mk (N := (⟨"PathProverModel", "holds", "(I)Z"⟩, prog_15_method_130_code, 3, (some .boolean), [], 17023)) (M := (3, (some .boolean), [], ev_b89)) [] rfl rfl rfl rfl (by decide +kernel) ev_k89 ev_cc89
set_option maxRecDepth 100000 in
theorem ev_m90 : ev_Mok 90 := ev_mk (N := (⟨"PathProverLaw", "tidy", "(LPathProver;I[J)I"⟩, method_15_code, 4, (some .int), [((0), (9), (12), (19)), ((0), (9), (15), (31))], 12174)) (M := (4, (some .int), [(0, 9, 12, 0), (0, 9, 15, 1)], ev_b90)) [5049, 7142] rfl rfl rfl rfl (by decide +kernel) ev_k90 ev_cc90
set_option maxRecDepth 100000 in
theorem ev_m91 : ev_Mok 91 := ev_mk (N := (⟨"PathProver", "tidy", "(I)I"⟩, prog_1_method_16_code, 2, (some .int), [], 12178)) (M := (2, (some .int), [], ev_b91)) [] rfl rfl rfl rfl (by decide +kernel) ev_k91 ev_cc91
set_option maxRecDepth 100000 in
theorem ev_m92 : ev_Mok 92 := ev_mk (N := (⟨"PathProverModel", "tidy", "(I)I"⟩, prog_15_method_131_code, 2, (some .int), [], 17027)) (M := (2, (some .int), [], ev_b92)) [] rfl rfl rfl rfl (by decide +kernel) ev_k92 ev_cc92
set_option maxRecDepth 100000 in
theorem ev_m93 : ev_Mok 93 := ev_mk (N := (⟨"PathProverLaw", "faults", "(LPathProver;I[J)I"⟩, method_16_code, 4, (some .int), [((0), (9), (12), (19))], 12181)) (M := (4, (some .int), [(0, 9, 12, 0)], ev_b93)) [5049] rfl rfl rfl rfl (by decide +kernel) ev_k93 ev_cc93
set_option maxRecDepth 100000 in
theorem ev_m94 : ev_Mok 94 := ev_mk (N := (⟨"PathProver", "faults", "(I)I"⟩, prog_1_method_17_code, 2, (some .int), [], 12185)) (M := (2, (some .int), [], ev_b94)) [] rfl rfl rfl rfl (by decide +kernel) ev_k94 ev_cc94
set_option maxRecDepth 100000 in
theorem ev_m95 : ev_Mok 95 := ev_mk (N := (⟨"PathProverModel", "faults", "(I)I"⟩, prog_15_method_132_code, 2, (some .int), [], 17031)) (M := (2, (some .int), [], ev_b95)) [] rfl rfl rfl rfl (by decide +kernel) ev_k95 ev_cc95
set_option maxRecDepth 100000 in
theorem ev_m96 : ev_Mok 96 := ev_mk (N := (⟨"java/lang/Math", "max", "(II)I"⟩, prog_31_method_65_code, 2, (some .int), [], 5164)) (M := (2, (some .int), [], ev_b96)) [] rfl rfl rfl rfl (by decide +kernel) ev_k96 ev_cc96
set_option maxRecDepth 100000 in
theorem ev_m97 : ev_Mok 97 := ev_mk (N := (⟨"java/lang/Math", "abs", "(I)I"⟩, prog_31_method_59_code, 1, (some .int), [], 9051)) (M := (1, (some .int), [], ev_b97)) [] rfl rfl rfl rfl (by decide +kernel) ev_k97 ev_cc97
set_option maxRecDepth 100000 in
theorem ev_m98 : ev_Mok 98 := ev_mk (N := (⟨"java/util/Arrays", "fill", "([IIII)V"⟩, prog_40_method_104_code, 5, none, [], 7196)) (M := (5, none, [], ev_b98)) [] rfl rfl rfl rfl (by decide +kernel) ev_k98 ev_cc98
set_option maxRecDepth 100000 in
theorem ev_m99 : ev_Mok 99 := ev_mk (N := (⟨"java/util/Arrays", "fill", "([JIIJ)V"⟩, prog_40_method_102_code, 6, none, [], 9000)) (M := (6, none, [], ev_b99)) [] rfl rfl rfl rfl (by decide +kernel) ev_k99 ev_cc99
set_option maxRecDepth 100000 in
theorem ev_m100 : ev_Mok 100 := ev_mk (N := (⟨"java/util/Arrays", "rangeCheck", "(III)V"⟩, prog_40_method_30_code, 3, none, [], 7199)) (M := (3, none, [], ev_b100)) [] rfl rfl rfl rfl (by decide +kernel) ev_k100 ev_cc100
set_option maxRecDepth 100000 in
theorem ev_m101 : ev_Mok 101 := ev_mk (N := (⟨"java/util/Arrays", "copyOf", "([II)[I"⟩, prog_40_method_123_code, 3, (some (.array .int)), [], 2151)) (M := (3, (some (.array .int)), [], ev_b101)) [] rfl rfl rfl rfl (by decide +kernel) ev_k101 ev_cc101
set_option maxRecDepth 100000 in
theorem ev_m102 : ev_Mok 102 := ev_mk (N := (⟨"java/util/Arrays", "copyOf", "([BI)[B"⟩, prog_40_method_121_code, 3, (some (.array .byte)), [], 5036)) (M := (3, (some (.array .byte)), [], ev_b102)) [] rfl rfl rfl rfl (by decide +kernel) ev_k102 ev_cc102
set_option maxRecDepth 100000 in
theorem ev_m103 : ev_Mok 103 := ev_mk (N := (⟨"java/lang/Long", "bitCount", "(J)I"⟩, prog_30_method_50_code, 2, (some .int), [], 9099)) (M := (2, (some .int), [], ev_b103)) [] rfl rfl rfl rfl (by decide +kernel) ev_k103 ev_cc103
set_option maxRecDepth 100000 in
theorem ev_m104 : ev_Mok 104 := ev_mk (N := (⟨"java/lang/Long", "numberOfTrailingZeros", "(J)I"⟩, prog_30_method_49_code, 3, (some .int), [], 9105)) (M := (3, (some .int), [], ev_b104)) [] rfl rfl rfl rfl (by decide +kernel) ev_k104 ev_cc104
set_option maxRecDepth 100000 in
theorem ev_m105 : ev_Mok 105 := ev_mk (N := (⟨"java/lang/Integer", "numberOfTrailingZeros", "(I)I"⟩, prog_29_method_48_code, 2, (some .int), [], 9108)) (M := (2, (some .int), [], ev_b105)) [] rfl rfl rfl rfl (by decide +kernel) ev_k105 ev_cc105
set_option maxRecDepth 100000 in
theorem ev_m106 : ev_Mok 106 := ev_mk (N := (⟨"java/lang/Integer", "numberOfLeadingZeros", "(I)I"⟩, prog_29_method_47_code, 2, (some .int), [], 7098)) (M := (2, (some .int), [], ev_b106)) [] rfl rfl rfl rfl (by decide +kernel) ev_k106 ev_cc106
set_option maxRecDepth 100000 in
theorem ev_m107 : ev_Mok 107 := ev_mk (N := (⟨"java/lang/Integer", "highestOneBit", "(I)I"⟩, prog_29_method_45_code, 1, (some .int), [], 7186)) (M := (1, (some .int), [], ev_b107)) [] rfl rfl rfl rfl (by decide +kernel) ev_k107 ev_cc107
set_option maxRecDepth 100000 in
theorem ev_m108 : ev_Mok 108 := ev_mk (N := (⟨"java/lang/String", "indexOf", "(I)I"⟩, prog_33_method_79_code, 2, (some .int), [], 5150)) (M := (2, (some .int), [], ev_b108)) [] rfl rfl rfl rfl (by decide +kernel) ev_k108 ev_cc108
set_option maxRecDepth 100000 in
theorem ev_m109 : ev_Mok 109 := ev_mk (N := (⟨"java/lang/String", "indexOf", "(II)I"⟩, prog_33_method_80_code, 3, (some .int), [], 5154)) (M := (3, (some .int), [], ev_b109)) [] rfl rfl rfl rfl (by decide +kernel) ev_k109 ev_cc109
set_option maxRecDepth 100000 in
theorem ev_m110 : ev_Mok 110 := ev_mk (N := (⟨"java/lang/StringLatin1", "indexOf", "([BIII)I"⟩, prog_35_method_22_code, 4, (some .int), [], 5158)) (M := (4, (some .int), [], ev_b110)) [] rfl rfl rfl rfl (by decide +kernel) ev_k110 ev_cc110
set_option maxRecDepth 100000 in
theorem ev_m111 : ev_Mok 111 := ev_mk (N := (⟨"java/lang/StringLatin1", "canEncode", "(I)Z"⟩, prog_35_method_4_code, 1, (some .boolean), [], 5161)) (M := (1, (some .boolean), [], ev_b111)) [] rfl rfl rfl rfl (by decide +kernel) ev_k111 ev_cc111
set_option maxRecDepth 100000 in
theorem ev_m112 : ev_Mok 112 := ev_mk (N := (⟨"java/lang/StringLatin1", "indexOfChar", "([BIII)I"⟩, prog_35_method_23_code, 6, (some .int), [], 5168)) (M := (6, (some .int), [], ev_b112)) [] rfl rfl rfl rfl (by decide +kernel) ev_k112 ev_cc112
set_option maxRecDepth 100000 in
theorem ev_m113 : ev_Mok 113 := ev_mk (N := (⟨"java/lang/String", "equals", "(Ljava/lang/Object;)Z"⟩, prog_33_method_66_code, 3, (some .boolean), [], 14022)) (M := (3, (some .boolean), [], ev_b113)) [] rfl rfl rfl rfl (by decide +kernel) ev_k113 ev_cc113
set_option maxRecDepth 100000 in
theorem ev_m114 : ev_Mok 114 := ev_mk (N := (⟨"java/lang/StringLatin1", "equals", "([B[B)Z"⟩, prog_35_method_13_code, 3, (some .boolean), [], 14026)) (M := (3, (some .boolean), [], ev_b114)) [] rfl rfl rfl rfl (by decide +kernel) ev_k114 ev_cc114
