/-! Printed by wip/whole/gen8.py: further methods -/
set_option maxRecDepth 100000 in
theorem ev_m180 : ev_Mok 180 := ev_mk (N := (⟨"PathProver$Sound", "typesFit", "(I)Z"⟩, prog_12_method_9_code, 4, (some .boolean), [], 6180)) (M := (4, (some .boolean), [], ev_b180)) [] rfl rfl rfl rfl (by decide +kernel) ev_k180 ev_cc180
set_option maxRecDepth 100000 in
theorem ev_m181 : ev_Mok 181 := ev_mk (N := (⟨"PathProver$Sound", "linesFit", "(I)Z"⟩, prog_12_method_12_code, 7, (some .boolean), [], 6192)) (M := (7, (some .boolean), [], ev_b181)) [] rfl rfl rfl rfl (by decide +kernel) ev_k181 ev_cc181
set_option maxRecDepth 100000 in
theorem ev_m182 : ev_Mok 182 := ev_mk (N := (⟨"PathProver$Sound", "endsSomewhere", "()Z"⟩, prog_12_method_13_code, 4, (some .boolean), [], 6200)) (M := (4, (some .boolean), [], ev_b182)) [] rfl rfl rfl rfl (by decide +kernel) ev_k182 ev_cc182
set_option maxRecDepth 100000 in
theorem ev_m183 : ev_Mok 183 := ev_mk (N := (⟨"PathProver$Sound", "reckon", "(I)Z"⟩, prog_12_method_14_code, 6, (some .boolean), [], 6204)) (M := (6, (some .boolean), [], ev_b183)) [] rfl rfl rfl rfl (by decide +kernel) ev_k183 ev_cc183
set_option maxRecDepth 100000 in
theorem ev_m184 : ev_Mok 184 := ev_mk (N := (⟨"PathProver$Sound", "valuesFit", "(I)Z"⟩, prog_12_method_10_code, 5, (some .boolean), [], 6184)) (M := (5, (some .boolean), [], ev_b184)) [] rfl rfl rfl rfl (by decide +kernel) ev_k184 ev_cc184
set_option maxRecDepth 100000 in
theorem ev_m185 : ev_Mok 185 := ev_mk (N := (⟨"PathProver$Sound", "instanceFits", "(I)Z"⟩, prog_12_method_11_code, 4, (some .boolean), [], 6188)) (M := (4, (some .boolean), [], ev_b185)) [] rfl rfl rfl rfl (by decide +kernel) ev_k185 ev_cc185
set_option maxRecDepth 100000 in
theorem ev_m186 : ev_Mok 186 := ev_mk (N := (⟨"PathProver$Judge", "verdict", "(LPathProver$Model;)I"⟩, prog_3_method_2_code, 2, (some .int), [], 6142)) (M := (2, (some .int), [], ev_b186)) [] rfl rfl rfl rfl (by decide +kernel) ev_k186 ev_cc186
set_option maxRecDepth 100000 in
theorem ev_m187 : ev_Mok 187 := ev_mk (N := (⟨"PathProver$Judge", "areOrdered", "()Z"⟩, prog_3_method_3_code, 2, (some .boolean), [], 7005)) (M := (2, (some .boolean), [], ev_b187)) [] rfl rfl rfl rfl (by decide +kernel) ev_k187 ev_cc187
set_option maxRecDepth 100000 in
theorem ev_m188 : ev_Mok 188 := ev_mk (N := (⟨"PathProver$Judge", "areLow", "()Z"⟩, prog_3_method_8_code, 5, (some .boolean), [], 7037)) (M := (5, (some .boolean), [], ev_b188)) [] rfl rfl rfl rfl (by decide +kernel) ev_k188 ev_cc188
set_option maxRecDepth 100000 in
theorem ev_m189 : ev_Mok 189 := ev_mk (N := (⟨"PathProver$Judge", "haveSorts", "()Z"⟩, prog_3_method_10_code, 4, (some .boolean), [], 7052)) (M := (4, (some .boolean), [], ev_b189)) [] rfl rfl rfl rfl (by decide +kernel) ev_k189 ev_cc189
set_option maxRecDepth 100000 in
theorem ev_m190 : ev_Mok 190 := ev_mk (N := (⟨"PathProver$Judge", "sortOf", "(IIII)I"⟩, prog_3_method_13_code, 11, (some .int), [], 7056)) (M := (11, (some .int), [], ev_b190)) [] rfl rfl rfl rfl (by decide +kernel) ev_k190 ev_cc190
set_option maxRecDepth 100000 in
theorem ev_m191 : ev_Mok 191 := ev_mk (N := (⟨"PathProver$Judge", "claimsAreTruths", "(I)Z"⟩, prog_3_method_11_code, 7, (some .boolean), [], 7087)) (M := (7, (some .boolean), [], ev_b191)) [] rfl rfl rfl rfl (by decide +kernel) ev_k191 ev_cc191
set_option maxRecDepth 100000 in
theorem ev_m192 : ev_Mok 192 := ev_mk (N := (⟨"PathProver$Judge", "linesHaveSorts", "(I)Z"⟩, prog_3_method_12_code, 5, (some .boolean), [], 7091)) (M := (5, (some .boolean), [], ev_b192)) [] rfl rfl rfl rfl (by decide +kernel) ev_k192 ev_cc192
set_option maxRecDepth 100000 in
theorem ev_m193 : ev_Mok 193 := ev_mk (N := (⟨"PathProver$Judge", "leafSort", "(III)I"⟩, prog_3_method_14_code, 8, (some .int), [], 7060)) (M := (8, (some .int), [], ev_b193)) [] rfl rfl rfl rfl (by decide +kernel) ev_k193 ev_cc193
set_option maxRecDepth 100000 in
theorem ev_m194 : ev_Mok 194 := ev_mk (N := (⟨"PathProver$Judge", "joinedSort", "(IIII)I"⟩, prog_3_method_15_code, 7, (some .int), [], 7068)) (M := (7, (some .int), [], ev_b194)) [] rfl rfl rfl rfl (by decide +kernel) ev_k194 ev_cc194
set_option maxRecDepth 100000 in
theorem ev_m195 : ev_Mok 195 := ev_mk (N := (⟨"PathProver$Judge", "areTruths", "(II)Z"⟩, prog_3_method_16_code, 4, (some .boolean), [], 7075)) (M := (4, (some .boolean), [], ev_b195)) [] rfl rfl rfl rfl (by decide +kernel) ev_k195 ev_cc195
set_option maxRecDepth 100000 in
theorem ev_m196 : ev_Mok 196 := ev_mk (N := (⟨"PathProver$Judge", "areAll", "(III)Z"⟩, prog_3_method_17_code, 5, (some .boolean), [], 7079)) (M := (5, (some .boolean), [], ev_b196)) [] rfl rfl rfl rfl (by decide +kernel) ev_k196 ev_cc196
set_option maxRecDepth 100000 in
theorem ev_m197 : ev_Mok 197 := ev_mk (N := (⟨"PathProver$Judge", "casesSort", "(II)I"⟩, prog_3_method_18_code, 5, (some .int), [], 7083)) (M := (5, (some .int), [], ev_b197)) [] rfl rfl rfl rfl (by decide +kernel) ev_k197 ev_cc197
set_option maxRecDepth 100000 in
theorem ev_m198 : ev_Mok 198 := ev_mk (N := (⟨"PathProver$Judge", "heightOf", "(III)I"⟩, prog_3_method_9_code, 12, (some .int), [], 7041)) (M := (12, (some .int), [], ev_b198)) [] rfl rfl rfl rfl (by decide +kernel) ev_k198 ev_cc198
set_option maxRecDepth 100000 in
theorem ev_m199 : ev_Mok 199 := ev_mk (N := (⟨"PathProver$Judge", "namedAt", "(II)I"⟩, prog_3_method_7_code, 5, (some .int), [], 7024)) (M := (5, (some .int), [], ev_b199)) [] rfl rfl rfl rfl (by decide +kernel) ev_k199 ev_cc199
set_option maxRecDepth 100000 in
theorem ev_m200 : ev_Mok 200 := ev_mk (N := (⟨"PathProver$Judge", "visit", "(I)Z"⟩, prog_3_method_4_code, 5, (some .boolean), [], 7009)) (M := (5, (some .boolean), [], ev_b200)) [] rfl rfl rfl rfl (by decide +kernel) ev_k200 ev_cc200
set_option maxRecDepth 100000 in
theorem ev_m201 : ev_Mok 201 := ev_mk (N := (⟨"PathProver$Judge", "enter", "(I)V"⟩, prog_3_method_5_code, 2, none, [], 7014)) (M := (2, none, [], ev_b201)) [] rfl rfl rfl rfl (by decide +kernel) ev_k201 ev_cc201
set_option maxRecDepth 100000 in
theorem ev_m202 : ev_Mok 202 := ev_mk (N := (⟨"PathProver$Judge", "nextPart", "(I)I"⟩, prog_3_method_6_code, 6, (some .int), [], 7020)) (M := (6, (some .int), [], ev_b202)) [] rfl rfl rfl rfl (by decide +kernel) ev_k202 ev_cc202
set_option maxRecDepth 100000 in
theorem ev_m203 : ev_Mok 203 := ev_mk (N := (⟨"PathProver$Machine", "load", "(III)V"⟩, prog_5_method_3_code, 11, none, [], 8195)) (M := (11, none, [], ev_b203)) [] rfl rfl rfl rfl (by decide +kernel) ev_k203 ev_cc203
set_option maxRecDepth 100000 in
theorem ev_m204 : ev_Mok 204 := ev_mk (N := (⟨"PathProver$Machine", "note", "(III)I"⟩, prog_5_method_4_code, 14, (some .int), [], 8202)) (M := (14, (some .int), [], ev_b204)) [] rfl rfl rfl rfl (by decide +kernel) ev_k204 ev_cc204
set_option maxRecDepth 100000 in
theorem ev_m205 : ev_Mok 205 := ev_mk (N := (⟨"PathProver$Machine", "layOutSides", "()I"⟩, prog_5_method_5_code, 3, (some .int), [], 8209)) (M := (3, (some .int), [], ev_b205)) [] rfl rfl rfl rfl (by decide +kernel) ev_k205 ev_cc205
set_option maxRecDepth 100000 in
theorem ev_m206 : ev_Mok 206 := ev_mk (N := (⟨"PathProver$Machine", "layOut", "(II)V"⟩, prog_5_method_6_code, 4, none, [], 8214)) (M := (4, none, [], ev_b206)) [] rfl rfl rfl rfl (by decide +kernel) ev_k206 ev_cc206
set_option maxRecDepth 100000 in
theorem ev_m207 : ev_Mok 207 := ev_mk (N := (⟨"PathProver$Machine", "rewind", "(I)I"⟩, prog_5_method_7_code, 4, (some .int), [], 8224)) (M := (4, (some .int), [], ev_b207)) [] rfl rfl rfl rfl (by decide +kernel) ev_k207 ev_cc207
set_option maxRecDepth 100000 in
theorem ev_m208 : ev_Mok 208 := ev_mk (N := (⟨"PathProver$Machine", "run", "()V"⟩, prog_5_method_16_code, 8, none, [], 9004)) (M := (8, none, [], ev_b208)) [] rfl rfl rfl rfl (by decide +kernel) ev_k208 ev_cc208
set_option maxRecDepth 100000 in
theorem ev_m209 : ev_Mok 209 := ev_mk (N := (⟨"PathProver$Machine", "results", "()[I"⟩, prog_5_method_31_code, 1, (some (.array .int)), [], 9059)) (M := (1, (some (.array .int)), [], ev_b209)) [] rfl rfl rfl rfl (by decide +kernel) ev_k209 ev_cc209
set_option maxRecDepth 100000 in
theorem ev_m210 : ev_Mok 210 := ev_mk (N := (⟨"PathProver$Machine", "digitAt", "(II)I"⟩, prog_5_method_30_code, 4, (some .int), [], 9063)) (M := (4, (some .int), [], ev_b210)) [] rfl rfl rfl rfl (by decide +kernel) ev_k210 ev_cc210
set_option maxRecDepth 100000 in
theorem ev_m211 : ev_Mok 211 := ev_mk (N := (⟨"PathProver$Machine", "turn", "()V"⟩, prog_5_method_8_code, 1, none, [], 9083)) (M := (1, none, [], ev_b211)) [] rfl rfl rfl rfl (by decide +kernel) ev_k211 ev_cc211
set_option maxRecDepth 100000 in
theorem ev_m212 : ev_Mok 212 := ev_mk (N := (⟨"PathProver$Machine", "fillAll", "()V"⟩, prog_5_method_9_code, 2, none, [], 8232)) (M := (2, none, [], ev_b212)) [] rfl rfl rfl rfl (by decide +kernel) ev_k212 ev_cc212
set_option maxRecDepth 100000 in
theorem ev_m213 : ev_Mok 213 := ev_mk (N := (⟨"PathProver$Machine", "fill", "(I)V"⟩, prog_5_method_14_code, 13, none, [], 8236)) (M := (13, none, [], ev_b213)) [] rfl rfl rfl rfl (by decide +kernel) ev_k213 ev_cc213
set_option maxRecDepth 100000 in
theorem ev_m214 : ev_Mok 214 := ev_mk (N := (⟨"PathProver$Machine", "choices", "(I)I"⟩, prog_5_method_32_code, 3, (some .int), [], 9071)) (M := (3, (some .int), [], ev_b214)) [] rfl rfl rfl rfl (by decide +kernel) ev_k214 ev_cc214
set_option maxRecDepth 100000 in
theorem ev_m215 : ev_Mok 215 := ev_mk (N := (⟨"PathProver$Machine", "choice", "(II)I"⟩, prog_5_method_33_code, 4, (some .int), [], 9079)) (M := (4, (some .int), [], ev_b215)) [] rfl rfl rfl rfl (by decide +kernel) ev_k215 ev_cc215
set_option maxRecDepth 100000 in
theorem ev_m216 : ev_Mok 216 := ev_mk (N := (⟨"PathProver$Machine", "cell", "(II)I"⟩, prog_5_method_21_code, 3, (some .int), [], 9075)) (M := (3, (some .int), [], ev_b216)) [] rfl rfl rfl rfl (by decide +kernel) ev_k216 ev_cc216
set_option maxRecDepth 100000 in
theorem ev_m217 : ev_Mok 217 := ev_mk (N := (⟨"PathProver$Machine", "bring", "(I[I)V"⟩, prog_5_method_22_code, 3, none, [], 9035)) (M := (3, none, [], ev_b217)) [] rfl rfl rfl rfl (by decide +kernel) ev_k217 ev_cc217
set_option maxRecDepth 100000 in
theorem ev_m218 : ev_Mok 218 := ev_mk (N := (⟨"PathProver$Machine", "push", "(III)V"⟩, prog_5_method_18_code, 10, none, [], 9008)) (M := (10, none, [], ev_b218)) [] rfl rfl rfl rfl (by decide +kernel) ev_k218 ev_cc218
set_option maxRecDepth 100000 in
theorem ev_m219 : ev_Mok 219 := ev_mk (N := (⟨"PathProver$Machine", "apply", "(II)V"⟩, prog_5_method_19_code, 7, none, [], 9012)) (M := (7, none, [], ev_b219)) [] rfl rfl rfl rfl (by decide +kernel) ev_k219 ev_cc219
set_option maxRecDepth 100000 in
theorem ev_m220 : ev_Mok 220 := ev_mk (N := (⟨"PathProver$Machine", "copy", "(II)V"⟩, prog_5_method_17_code, 3, none, [], 9020)) (M := (3, none, [], ev_b220)) [] rfl rfl rfl rfl (by decide +kernel) ev_k220 ev_cc220
set_option maxRecDepth 100000 in
theorem ev_m221 : ev_Mok 221 := ev_mk (N := (⟨"PathProver$Machine", "keepChoices", "(I)V"⟩, prog_5_method_20_code, 4, none, [], 9016)) (M := (4, none, [], ev_b221)) [] rfl rfl rfl rfl (by decide +kernel) ev_k221 ev_cc221
set_option maxRecDepth 100000 in
theorem ev_m222 : ev_Mok 222 := ev_mk (N := (⟨"PathProver$Machine", "reckonOne", "(II)I"⟩, prog_5_method_23_code, 5, (some .int), [], 9024)) (M := (5, (some .int), [], ev_b222)) [] rfl rfl rfl rfl (by decide +kernel) ev_k222 ev_cc222
set_option maxRecDepth 100000 in
theorem ev_m223 : ev_Mok 223 := ev_mk (N := (⟨"PathProver$Machine", "choose", "(III)V"⟩, prog_5_method_25_code, 6, none, [], 9031)) (M := (6, none, [], ev_b223)) [] rfl rfl rfl rfl (by decide +kernel) ev_k223 ev_cc223
set_option maxRecDepth 100000 in
theorem ev_m224 : ev_Mok 224 := ev_mk (N := (⟨"PathProver$Machine", "match", "(II)V"⟩, prog_5_method_26_code, 6, none, [], 9039)) (M := (6, none, [], ev_b224)) [] rfl rfl rfl rfl (by decide +kernel) ev_k224 ev_cc224
set_option maxRecDepth 100000 in
theorem ev_m225 : ev_Mok 225 := ev_mk (N := (⟨"PathProver$Machine", "joinTruths", "(II)V"⟩, prog_5_method_27_code, 6, none, [], 9043)) (M := (6, none, [], ev_b225)) [] rfl rfl rfl rfl (by decide +kernel) ev_k225 ev_cc225
set_option maxRecDepth 100000 in
theorem ev_m226 : ev_Mok 226 := ev_mk (N := (⟨"PathProver$Machine", "divide", "(II)V"⟩, prog_5_method_29_code, 11, none, [], 9047)) (M := (11, none, [], ev_b226)) [] rfl rfl rfl rfl (by decide +kernel) ev_k226 ev_cc226
set_option maxRecDepth 100000 in
theorem ev_m227 : ev_Mok 227 := ev_mk (N := (⟨"PathProver$Machine", "joinNumbers", "(II)V"⟩, prog_5_method_28_code, 6, none, [], 9055)) (M := (6, none, [], ev_b227)) [] rfl rfl rfl rfl (by decide +kernel) ev_k227 ev_cc227
set_option maxRecDepth 100000 in
theorem ev_m228 : ev_Mok 228 := ev_mk (N := (⟨"PathProver$Machine", "joinOne", "(III)I"⟩, prog_5_method_24_code, 3, (some .int), [], 9027)) (M := (3, (some .int), [], ev_b228)) [] rfl rfl rfl rfl (by decide +kernel) ev_k228 ev_cc228
set_option maxRecDepth 100000 in
theorem ev_m229 : ev_Mok 229 := ev_mk (N := (⟨"PathProver$Machine", "weigh", "(II)V"⟩, prog_5_method_10_code, 3, none, [], 8228)) (M := (3, none, [], ev_b229)) [] rfl rfl rfl rfl (by decide +kernel) ev_k229 ev_cc229
set_option maxRecDepth 100000 in
theorem ev_m230 : ev_Mok 230 := ev_mk (N := (⟨"PathProver$Machine", "beginList", "()V"⟩, prog_5_method_12_code, 2, none, [], 10220)) (M := (2, none, [], ev_b230)) [] rfl rfl rfl rfl (by decide +kernel) ev_k230 ev_cc230
set_option maxRecDepth 100000 in
theorem ev_m231 : ev_Mok 231 := ev_mk (N := (⟨"PathProver$Machine", "takeList", "([III)I"⟩, prog_5_method_13_code, 6, (some .int), [], 10224)) (M := (6, (some .int), [], ev_b231)) [] rfl rfl rfl rfl (by decide +kernel) ev_k231 ev_cc231
set_option maxRecDepth 100000 in
theorem ev_m232 : ev_Mok 232 := ev_mk (N := (⟨"PathProver$Machine", "pickOut", "(I[II)V"⟩, prog_5_method_15_code, 16, none, [], 10228)) (M := (16, none, [], ev_b232)) [] rfl rfl rfl rfl (by decide +kernel) ev_k232 ev_cc232
set_option maxRecDepth 100000 in
theorem ev_m233 : ev_Mok 233 := ev_mk (N := (⟨"PathProver$Machine", "pose", "(II)V"⟩, prog_5_method_11_code, 3, none, [], 10141)) (M := (3, none, [], ev_b233)) [] rfl rfl rfl rfl (by decide +kernel) ev_k233 ev_cc233
set_option maxRecDepth 100000 in
theorem ev_m234 : ev_Mok 234 := ev_mk (N := (⟨"PathProver$Machine", "begin", "(LPathProver$Space;)V"⟩, prog_5_method_2_code, 2, none, [], 7132)) (M := (2, none, [], ev_b234)) [] rfl rfl rfl rfl (by decide +kernel) ev_k234 ev_cc234
set_option maxRecDepth 100000 in
theorem ev_m235 : ev_Mok 235 := ev_mk (N := (⟨"PathProver$Sets", "unpack", "(I[J)V"⟩, prog_11_method_14_code, 7, none, [], 10177)) (M := (7, none, [], ev_b235)) [] rfl rfl rfl rfl (by decide +kernel) ev_k235 ev_cc235
set_option maxRecDepth 100000 in
theorem ev_m236 : ev_Mok 236 := ev_mk (N := (⟨"PathProver$Sets", "formOf", "(I)I"⟩, prog_11_method_7_code, 2, (some .int), [], 9231)) (M := (2, (some .int), [], ev_b236)) [] rfl rfl rfl rfl (by decide +kernel) ev_k236 ev_cc236
set_option maxRecDepth 100000 in
theorem ev_m237 : ev_Mok 237 := ev_mk (N := (⟨"PathProver$Sets", "partsIn", "(I)I"⟩, prog_11_method_13_code, 6, (some .int), [], 9236)) (M := (6, (some .int), [], ev_b237)) [] rfl rfl rfl rfl (by decide +kernel) ev_k237 ev_cc237
set_option maxRecDepth 100000 in
theorem ev_m238 : ev_Mok 238 := ev_mk (N := (⟨"PathProver$Sets", "numberAt", "(II)I"⟩, prog_11_method_12_code, 3, (some .int), [], 10001)) (M := (3, (some .int), [], ev_b238)) [] rfl rfl rfl rfl (by decide +kernel) ev_k238 ev_cc238
set_option maxRecDepth 100000 in
theorem ev_m239 : ev_Mok 239 := ev_mk (N := (⟨"PathProver$Sets", "layRun", "([JII)V"⟩, prog_11_method_15_code, 4, none, [], 10180)) (M := (4, none, [], ev_b239)) [] rfl rfl rfl rfl (by decide +kernel) ev_k239 ev_cc239
