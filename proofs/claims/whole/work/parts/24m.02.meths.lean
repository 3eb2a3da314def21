/-! Printed by wip/whole/gen8.py: further methods -/
set_option maxRecDepth 100000 in
theorem ev_m120 : ev_Mok 120 := ev_mk (N := (⟨"PathProver$Lexer", "word", "()V"⟩, prog_4_method_7_code, 2, none, [], 5131)) (M := (2, none, [], ev_b120)) [] rfl rfl rfl rfl (by decide +kernel) ev_k120 ev_cc120
set_option maxRecDepth 100000 in
theorem ev_m121 : ev_Mok 121 := ev_mk (N := (⟨"PathProver$Lexer", "isDigit", "(I)Z"⟩, prog_4_method_6_code, 1, (some .boolean), [], 5134)) (M := (1, (some .boolean), [], ev_b121)) [] rfl rfl rfl rfl (by decide +kernel) ev_k121 ev_cc121
set_option maxRecDepth 100000 in
theorem ev_m122 : ev_Mok 122 := ev_mk (N := (⟨"PathProver$Lexer", "number", "()V"⟩, prog_4_method_8_code, 1, none, [], 5138)) (M := (1, none, [], ev_b122)) [] rfl rfl rfl rfl (by decide +kernel) ev_k122 ev_cc122
set_option maxRecDepth 100000 in
theorem ev_m123 : ev_Mok 123 := ev_mk (N := (⟨"PathProver$Lexer", "sign", "()V"⟩, prog_4_method_9_code, 5, none, [], 5144)) (M := (5, none, [], ev_b123)) [] rfl rfl rfl rfl (by decide +kernel) ev_k123 ev_cc123
set_option maxRecDepth 100000 in
theorem ev_m124 : ev_Mok 124 := ev_mk (N := (⟨"PathProver$Lexer", "isWord", "(I[BII)Z"⟩, prog_4_method_11_code, 7, (some .boolean), [], 5109)) (M := (7, (some .boolean), [], ev_b124)) [] rfl rfl rfl rfl (by decide +kernel) ev_k124 ev_cc124
set_option maxRecDepth 100000 in
theorem ev_m125 : ev_Mok 125 := ev_mk (N := (⟨"PathProver$Model", "reach", "(II)I"⟩, prog_6_method_13_code, 8, (some .int), [], 7028)) (M := (8, (some .int), [], ev_b125)) [] rfl rfl rfl rfl (by decide +kernel) ev_k125 ev_cc125
set_option maxRecDepth 100000 in
theorem ev_m126 : ev_Mok 126 := ev_mk (N := (⟨"PathProver$Model", "sortOf", "(I)I"⟩, prog_6_method_5_code, 3, (some .int), [], 7064)) (M := (3, (some .int), [], ev_b126)) [] rfl rfl rfl rfl (by decide +kernel) ev_k126 ev_cc126
set_option maxRecDepth 100000 in
theorem ev_m127 : ev_Mok 127 := ev_mk (N := (⟨"PathProver$Model", "worth", "(II)I"⟩, prog_6_method_7_code, 5, (some .int), [], 6228)) (M := (5, (some .int), [], ev_b127)) [] rfl rfl rfl rfl (by decide +kernel) ev_k127 ev_cc127
set_option maxRecDepth 100000 in
theorem ev_m128 : ev_Mok 128 := ev_mk (N := (⟨"PathProver$Model", "startOf", "(I)I"⟩, prog_6_method_16_code, 4, (some .int), [], 10021)) (M := (4, (some .int), [], ev_b128)) [] rfl rfl rfl rfl (by decide +kernel) ev_k128 ev_cc128
set_option maxRecDepth 100000 in
theorem ev_m129 : ev_Mok 129 := ev_mk (N := (⟨"PathProver$Model", "collect", "(IIILPathProver$Rows;)V"⟩, prog_6_method_14_code, 11, none, [], 8190)) (M := (11, none, [], ev_b129)) [] rfl rfl rfl rfl (by decide +kernel) ev_k129 ev_cc129
set_option maxRecDepth 100000 in
theorem ev_m130 : ev_Mok 130 := ev_mk (N := (⟨"PathProver$Model", "stop", "(IILPathProver$Rows;)I"⟩, prog_6_method_4_code, 4, (some .int), [], 6171)) (M := (4, (some .int), [], ev_b130)) [] rfl rfl rfl rfl (by decide +kernel) ev_k130 ev_cc130
set_option maxRecDepth 100000 in
theorem ev_m131 : ev_Mok 131 := ev_mk (N := (⟨"PathProver$Model", "bits", "()I"⟩, prog_6_method_8_code, 3, (some .int), [], 7095)) (M := (3, (some .int), [], ev_b131)) [] rfl rfl rfl rfl (by decide +kernel) ev_k131 ev_cc131
set_option maxRecDepth 100000 in
theorem ev_m132 : ev_Mok 132 := ev_mk (N := (⟨"PathProver$Model", "grow", "(I)V"⟩, prog_6_method_9_code, 7, none, [], 6211)) (M := (7, none, [], ev_b132)) [] rfl rfl rfl rfl (by decide +kernel) ev_k132 ev_cc132
set_option maxRecDepth 100000 in
theorem ev_m133 : ev_Mok 133 := ev_mk (N := (⟨"PathProver$Model", "addInstance", "(III)V"⟩, prog_6_method_11_code, 8, none, [], 6215)) (M := (8, none, [], ev_b133)) [] rfl rfl rfl rfl (by decide +kernel) ev_k133 ev_cc133
set_option maxRecDepth 100000 in
theorem ev_m134 : ev_Mok 134 := ev_mk (N := (⟨"PathProver$Model", "addVar", "(III)V"⟩, prog_6_method_10_code, 5, none, [], 6220)) (M := (5, none, [], ev_b134)) [] rfl rfl rfl rfl (by decide +kernel) ev_k134 ev_cc134
set_option maxRecDepth 100000 in
theorem ev_m135 : ev_Mok 135 := ev_mk (N := (⟨"PathProver$Model", "addClaims", "(II)V"⟩, prog_6_method_12_code, 5, none, [], 6232)) (M := (5, none, [], ev_b135)) [] rfl rfl rfl rfl (by decide +kernel) ev_k135 ev_cc135
set_option maxRecDepth 100000 in
theorem ev_m136 : ev_Mok 136 := ev_mk (N := (⟨"PathProver$Model", "valuesOf", "(I)I"⟩, prog_6_method_6_code, 4, (some .int), [], 6224)) (M := (4, (some .int), [], ev_b136)) [] rfl rfl rfl rfl (by decide +kernel) ev_k136 ev_cc136
set_option maxRecDepth 100000 in
theorem ev_m137 : ev_Mok 137 := ev_mk (N := (⟨"PathProver$Model", "openModule", "(I)V"⟩, prog_6_method_3_code, 3, none, [], 5222)) (M := (3, none, [], ev_b137)) [] rfl rfl rfl rfl (by decide +kernel) ev_k137 ev_cc137
set_option maxRecDepth 100000 in
theorem ev_m138 : ev_Mok 138 := ev_mk (N := (⟨"PathProver$Parser", "variable", "()Z"⟩, prog_7_method_11_code, 2, (some .boolean), [], 5237)) (M := (2, (some .boolean), [], ev_b138)) [] rfl rfl rfl rfl (by decide +kernel) ev_k138 ev_cc138
set_option maxRecDepth 100000 in
theorem ev_m139 : ev_Mok 139 := ev_mk (N := (⟨"PathProver$Parser", "section", "()Z"⟩, prog_7_method_8_code, 2, (some .boolean), [], 6027)) (M := (2, (some .boolean), [], ev_b139)) [] rfl rfl rfl rfl (by decide +kernel) ev_k139 ev_cc139
set_option maxRecDepth 100000 in
theorem ev_m140 : ev_Mok 140 := ev_mk (N := (⟨"PathProver$Parser", "definition", "()Z"⟩, prog_7_method_9_code, 2, (some .boolean), [], 6031)) (M := (2, (some .boolean), [], ev_b140)) [] rfl rfl rfl rfl (by decide +kernel) ev_k140 ev_cc140
set_option maxRecDepth 100000 in
theorem ev_m141 : ev_Mok 141 := ev_mk (N := (⟨"PathProver$Parser", "line", "()Z"⟩, prog_7_method_10_code, 1, (some .boolean), [], 6035)) (M := (1, (some .boolean), [], ev_b141)) [] rfl rfl rfl rfl (by decide +kernel) ev_k141 ev_cc141
set_option maxRecDepth 100000 in
theorem ev_m142 : ev_Mok 142 := ev_mk (N := (⟨"PathProver$Parser", "operator", "()Z"⟩, prog_7_method_29_code, 5, (some .boolean), [], 6039)) (M := (5, (some .boolean), [], ev_b142)) [] rfl rfl rfl rfl (by decide +kernel) ev_k142 ev_cc142
set_option maxRecDepth 100000 in
theorem ev_m143 : ev_Mok 143 := ev_mk (N := (⟨"PathProver$Parser", "choiceEnded", "()Z"⟩, prog_7_method_38_code, 2, (some .boolean), [], 6110)) (M := (2, (some .boolean), [], ev_b143)) [] rfl rfl rfl rfl (by decide +kernel) ev_k143 ev_cc143
set_option maxRecDepth 100000 in
theorem ev_m144 : ev_Mok 144 := ev_mk (N := (⟨"PathProver$Parser", "choice", "()Z"⟩, prog_7_method_37_code, 2, (some .boolean), [], 6114)) (M := (2, (some .boolean), [], ev_b144)) [] rfl rfl rfl rfl (by decide +kernel) ev_k144 ev_cc144
set_option maxRecDepth 100000 in
theorem ev_m145 : ev_Mok 145 := ev_mk (N := (⟨"PathProver$Parser", "operand", "()Z"⟩, prog_7_method_22_code, 2, (some .boolean), [], 6118)) (M := (2, (some .boolean), [], ev_b145)) [] rfl rfl rfl rfl (by decide +kernel) ev_k145 ev_cc145
set_option maxRecDepth 100000 in
theorem ev_m146 : ev_Mok 146 := ev_mk (N := (⟨"PathProver$Parser", "giveSymbols", "()V"⟩, prog_7_method_3_code, 3, none, [], 6134)) (M := (3, none, [], ev_b146)) [] rfl rfl rfl rfl (by decide +kernel) ev_k146 ev_cc146
set_option maxRecDepth 100000 in
theorem ev_m147 : ev_Mok 147 := ev_mk (N := (⟨"PathProver$Parser", "prefix", "()Z"⟩, prog_7_method_23_code, 2, (some .boolean), [], 6122)) (M := (2, (some .boolean), [], ev_b147)) [] rfl rfl rfl rfl (by decide +kernel) ev_k147 ev_cc147
set_option maxRecDepth 100000 in
theorem ev_m148 : ev_Mok 148 := ev_mk (N := (⟨"PathProver$Parser", "push", "(II)V"⟩, prog_7_method_16_code, 3, none, [], 6010)) (M := (3, none, [], ev_b148)) [] rfl rfl rfl rfl (by decide +kernel) ev_k148 ev_cc148
set_option maxRecDepth 100000 in
theorem ev_m149 : ev_Mok 149 := ev_mk (N := (⟨"PathProver$Parser", "leaf", "()Z"⟩, prog_7_method_24_code, 1, (some .boolean), [], 6126)) (M := (1, (some .boolean), [], ev_b149)) [] rfl rfl rfl rfl (by decide +kernel) ev_k149 ev_cc149
set_option maxRecDepth 100000 in
theorem ev_m150 : ev_Mok 150 := ev_mk (N := (⟨"PathProver$Parser", "emit", "(II)V"⟩, prog_7_method_21_code, 3, none, [], 6068)) (M := (3, none, [], ev_b150)) [] rfl rfl rfl rfl (by decide +kernel) ev_k150 ev_cc150
set_option maxRecDepth 100000 in
theorem ev_m151 : ev_Mok 151 := ev_mk (N := (⟨"PathProver$Parser", "names", "()Z"⟩, prog_7_method_25_code, 3, (some .boolean), [], 6130)) (M := (3, (some .boolean), [], ev_b151)) [] rfl rfl rfl rfl (by decide +kernel) ev_k151 ev_cc151
set_option maxRecDepth 100000 in
theorem ev_m152 : ev_Mok 152 := ev_mk (N := (⟨"PathProver$Parser", "factorEnded", "()V"⟩, prog_7_method_26_code, 2, none, [], 6090)) (M := (2, none, [], ev_b152)) [] rfl rfl rfl rfl (by decide +kernel) ev_k152 ev_cc152
set_option maxRecDepth 100000 in
theorem ev_m153 : ev_Mok 153 := ev_mk (N := (⟨"PathProver$Parser", "top", "()I"⟩, prog_7_method_17_code, 1, (some .int), [], 6060)) (M := (1, (some .int), [], ev_b153)) [] rfl rfl rfl rfl (by decide +kernel) ev_k153 ev_cc153
set_option maxRecDepth 100000 in
theorem ev_m154 : ev_Mok 154 := ev_mk (N := (⟨"PathProver$Parser", "drop", "()V"⟩, prog_7_method_19_code, 1, none, [], 6072)) (M := (1, none, [], ev_b154)) [] rfl rfl rfl rfl (by decide +kernel) ev_k154 ev_cc154
set_option maxRecDepth 100000 in
theorem ev_m155 : ev_Mok 155 := ev_mk (N := (⟨"PathProver$Parser", "itemEnded", "(I)Z"⟩, prog_7_method_32_code, 2, (some .boolean), [], 6082)) (M := (2, (some .boolean), [], ev_b155)) [] rfl rfl rfl rfl (by decide +kernel) ev_k155 ev_cc155
set_option maxRecDepth 100000 in
theorem ev_m156 : ev_Mok 156 := ev_mk (N := (⟨"PathProver$Parser", "note", "()I"⟩, prog_7_method_18_code, 1, (some .int), [], 6064)) (M := (1, (some .int), [], ev_b156)) [] rfl rfl rfl rfl (by decide +kernel) ev_k156 ev_cc156
set_option maxRecDepth 100000 in
theorem ev_m157 : ev_Mok 157 := ev_mk (N := (⟨"PathProver$Parser", "turnTo", "(III)Z"⟩, prog_7_method_20_code, 4, (some .boolean), [], 6094)) (M := (4, (some .boolean), [], ev_b157)) [] rfl rfl rfl rfl (by decide +kernel) ev_k157 ev_cc157
set_option maxRecDepth 100000 in
theorem ev_m158 : ev_Mok 158 := ev_mk (N := (⟨"PathProver$Parser", "binary", "(I)I"⟩, prog_7_method_30_code, 1, (some .int), [], 6042)) (M := (1, (some .int), [], ev_b158)) [] rfl rfl rfl rfl (by decide +kernel) ev_k158 ev_cc158
set_option maxRecDepth 100000 in
theorem ev_m159 : ev_Mok 159 := ev_mk (N := (⟨"PathProver$Parser", "closer", "()Z"⟩, prog_7_method_31_code, 2, (some .boolean), [], 6046)) (M := (2, (some .boolean), [], ev_b159)) [] rfl rfl rfl rfl (by decide +kernel) ev_k159 ev_cc159
set_option maxRecDepth 100000 in
theorem ev_m160 : ev_Mok 160 := ev_mk (N := (⟨"PathProver$Parser", "endOfP", "()V"⟩, prog_7_method_28_code, 1, none, [], 6050)) (M := (1, none, [], ev_b160)) [] rfl rfl rfl rfl (by decide +kernel) ev_k160 ev_cc160
set_option maxRecDepth 100000 in
theorem ev_m161 : ev_Mok 161 := ev_mk (N := (⟨"PathProver$Parser", "unwind", "(I)I"⟩, prog_7_method_27_code, 4, (some .int), [], 6054)) (M := (4, (some .int), [], ev_b161)) [] rfl rfl rfl rfl (by decide +kernel) ev_k161 ev_cc161
set_option maxRecDepth 100000 in
theorem ev_m162 : ev_Mok 162 := ev_mk (N := (⟨"PathProver$Parser", "given", "()Z"⟩, prog_7_method_33_code, 1, (some .boolean), [], 6086)) (M := (1, (some .boolean), [], ev_b162)) [] rfl rfl rfl rfl (by decide +kernel) ev_k162 ev_cc162
set_option maxRecDepth 100000 in
theorem ev_m163 : ev_Mok 163 := ev_mk (N := (⟨"PathProver$Parser", "partEnded", "()Z"⟩, prog_7_method_34_code, 1, (some .boolean), [], 6098)) (M := (1, (some .boolean), [], ev_b163)) [] rfl rfl rfl rfl (by decide +kernel) ev_k163 ev_cc163
set_option maxRecDepth 100000 in
theorem ev_m164 : ev_Mok 164 := ev_mk (N := (⟨"PathProver$Parser", "listed", "(I)Z"⟩, prog_7_method_35_code, 3, (some .boolean), [], 6102)) (M := (3, (some .boolean), [], ev_b164)) [] rfl rfl rfl rfl (by decide +kernel) ev_k164 ev_cc164
set_option maxRecDepth 100000 in
theorem ev_m165 : ev_Mok 165 := ev_mk (N := (⟨"PathProver$Parser", "branched", "()Z"⟩, prog_7_method_36_code, 2, (some .boolean), [], 6106)) (M := (2, (some .boolean), [], ev_b165)) [] rfl rfl rfl rfl (by decide +kernel) ev_k165 ev_cc165
set_option maxRecDepth 100000 in
theorem ev_m166 : ev_Mok 166 := ev_mk (N := (⟨"PathProver$Parser", "start", "(III)Z"⟩, prog_7_method_15_code, 4, (some .boolean), [], 6006)) (M := (4, (some .boolean), [], ev_b166)) [] rfl rfl rfl rfl (by decide +kernel) ev_k166 ev_cc166
set_option maxRecDepth 100000 in
theorem ev_m167 : ev_Mok 167 := ev_mk (N := (⟨"PathProver$Parser", "instance", "(I)Z"⟩, prog_7_method_12_code, 2, (some .boolean), [], 6001)) (M := (2, (some .boolean), [], ev_b167)) [] rfl rfl rfl rfl (by decide +kernel) ev_k167 ev_cc167
set_option maxRecDepth 100000 in
theorem ev_m168 : ev_Mok 168 := ev_mk (N := (⟨"PathProver$Parser", "valueList", "(I)Z"⟩, prog_7_method_14_code, 4, (some .boolean), [], 6014)) (M := (4, (some .boolean), [], ev_b168)) [] rfl rfl rfl rfl (by decide +kernel) ev_k168 ev_cc168
set_option maxRecDepth 100000 in
theorem ev_m169 : ev_Mok 169 := ev_mk (N := (⟨"PathProver$Parser", "bound", "(II)Z"⟩, prog_7_method_13_code, 4, (some .boolean), [], 6023)) (M := (4, (some .boolean), [], ev_b169)) [] rfl rfl rfl rfl (by decide +kernel) ev_k169 ev_cc169
set_option maxRecDepth 100000 in
theorem ev_m170 : ev_Mok 170 := ev_mk (N := (⟨"PathProver$Parser", "params", "()Z"⟩, prog_7_method_7_code, 2, (some .boolean), [], 5231)) (M := (2, (some .boolean), [], ev_b170)) [] rfl rfl rfl rfl (by decide +kernel) ev_k170 ev_cc170
set_option maxRecDepth 100000 in
theorem ev_m171 : ev_Mok 171 := ev_mk (N := (⟨"PathProver$Sound", "isWellFormed", "(LPathProver$Model;)Z"⟩, prog_12_method_2_code, 4, (some .boolean), [], 6146)) (M := (4, (some .boolean), [], ev_b171)) [] rfl rfl rfl rfl (by decide +kernel) ev_k171 ev_cc171
set_option maxRecDepth 100000 in
theorem ev_m172 : ev_Mok 172 := ev_mk (N := (⟨"PathProver$Sound", "areNamesKnown", "()Z"⟩, prog_12_method_15_code, 3, (some .boolean), [], 6237)) (M := (3, (some .boolean), [], ev_b172)) [] rfl rfl rfl rfl (by decide +kernel) ev_k172 ev_cc172
set_option maxRecDepth 100000 in
theorem ev_m173 : ev_Mok 173 := ev_mk (N := (⟨"PathProver$Sound", "isKnown", "(II)Z"⟩, prog_12_method_16_code, 9, (some .boolean), [], 7001)) (M := (9, (some .boolean), [], ev_b173)) [] rfl rfl rfl rfl (by decide +kernel) ev_k173 ev_cc173
set_option maxRecDepth 100000 in
theorem ev_m174 : ev_Mok 174 := ev_mk (N := (⟨"PathProver$Sound", "find", "(II)I"⟩, prog_12_method_5_code, 5, (some .int), [], 6157)) (M := (5, (some .int), [], ev_b174)) [] rfl rfl rfl rfl (by decide +kernel) ev_k174 ev_cc174
set_option maxRecDepth 100000 in
theorem ev_m175 : ev_Mok 175 := ev_mk (N := (⟨"PathProver$Sound", "kindOf", "(I)I"⟩, prog_12_method_6_code, 2, (some .int), [], 6196)) (M := (2, (some .int), [], ev_b175)) [] rfl rfl rfl rfl (by decide +kernel) ev_k175 ev_cc175
set_option maxRecDepth 100000 in
theorem ev_m176 : ev_Mok 176 := ev_mk (N := (⟨"PathProver$Sound", "rowOf", "(I)I"⟩, prog_12_method_7_code, 2, (some .int), [], 6167)) (M := (2, (some .int), [], ev_b176)) [] rfl rfl rfl rfl (by decide +kernel) ev_k176 ev_cc176
set_option maxRecDepth 100000 in
theorem ev_m177 : ev_Mok 177 := ev_mk (N := (⟨"PathProver$Sound", "hashOf", "(II)I"⟩, prog_12_method_3_code, 4, (some .int), [], 6161)) (M := (4, (some .int), [], ev_b177)) [] rfl rfl rfl rfl (by decide +kernel) ev_k177 ev_cc177
set_option maxRecDepth 100000 in
theorem ev_m178 : ev_Mok 178 := ev_mk (N := (⟨"PathProver$Sound", "add", "(IIII)Z"⟩, prog_12_method_4_code, 7, (some .boolean), [], 6153)) (M := (7, (some .boolean), [], ev_b178)) [] rfl rfl rfl rfl (by decide +kernel) ev_k178 ev_cc178
set_option maxRecDepth 100000 in
theorem ev_m179 : ev_Mok 179 := ev_mk (N := (⟨"PathProver$Sound", "namesDiffer", "(I)Z"⟩, prog_12_method_8_code, 5, (some .boolean), [], 6176)) (M := (5, (some .boolean), [], ev_b179)) [] rfl rfl rfl rfl (by decide +kernel) ev_k179 ev_cc179
