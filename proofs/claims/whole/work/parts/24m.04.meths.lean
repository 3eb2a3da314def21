/-! Printed by wip/whole/gen8.py: further methods -/
set_option maxRecDepth 100000 in
theorem ev_m240 : ev_Mok 240 := ev_mk (N := (⟨"PathProver$Sets", "runIn", "(III)J"⟩, prog_11_method_16_code, 5, (some .long), [], 10183)) (M := (5, (some .long), [], ev_b240)) [] rfl rfl rfl rfl (by decide +kernel) ev_k240 ev_cc240
set_option maxRecDepth 100000 in
theorem ev_m241 : ev_Mok 241 := ev_mk (N := (⟨"PathProver$Sets", "meets", "(I[J)Z"⟩, prog_11_method_22_code, 8, (some .boolean), [], 11128)) (M := (8, (some .boolean), [], ev_b241)) [] rfl rfl rfl rfl (by decide +kernel) ev_k241 ev_cc241
set_option maxRecDepth 100000 in
theorem ev_m242 : ev_Mok 242 := ev_mk (N := (⟨"PathProver$Sets", "contains", "(II)Z"⟩, prog_11_method_21_code, 9, (some .boolean), [], 9227)) (M := (9, (some .boolean), [], ev_b242)) [] rfl rfl rfl rfl (by decide +kernel) ev_k242 ev_cc242
set_option maxRecDepth 100000 in
theorem ev_m243 : ev_Mok 243 := ev_mk (N := (⟨"PathProver$Sets", "runMeets", "(II[J)Z"⟩, prog_11_method_23_code, 4, (some .boolean), [], 11132)) (M := (4, (some .boolean), [], ev_b243)) [] rfl rfl rfl rfl (by decide +kernel) ev_k243 ev_cc243
set_option maxRecDepth 100000 in
theorem ev_m244 : ev_Mok 244 := ev_mk (N := (⟨"PathProver$Sets", "firstWord", "(I)I"⟩, prog_11_method_17_code, 2, (some .int), [], 11075)) (M := (2, (some .int), [], ev_b244)) [] rfl rfl rfl rfl (by decide +kernel) ev_k244 ev_cc244
set_option maxRecDepth 100000 in
theorem ev_m245 : ev_Mok 245 := ev_mk (N := (⟨"PathProver$Sets", "endWord", "(I)I"⟩, prog_11_method_18_code, 4, (some .int), [], 11079)) (M := (4, (some .int), [], ev_b245)) [] rfl rfl rfl rfl (by decide +kernel) ev_k245 ev_cc245
set_option maxRecDepth 100000 in
theorem ev_m246 : ev_Mok 246 := ev_mk (N := (⟨"PathProver$Sets", "isListed", "(I)Z"⟩, prog_11_method_19_code, 2, (some .boolean), [], 10169)) (M := (2, (some .boolean), [], ev_b246)) [] rfl rfl rfl rfl (by decide +kernel) ev_k246 ev_cc246
set_option maxRecDepth 100000 in
theorem ev_m247 : ev_Mok 247 := ev_mk (N := (⟨"PathProver$Sets", "list", "(I[II)I"⟩, prog_11_method_20_code, 6, (some .int), [], 10173)) (M := (6, (some .int), [], ev_b247)) [] rfl rfl rfl rfl (by decide +kernel) ev_k247 ev_cc247
set_option maxRecDepth 100000 in
theorem ev_m248 : ev_Mok 248 := ev_mk (N := (⟨"PathProver$Sets", "isAbsent", "(I)Z"⟩, prog_11_method_4_code, 2, (some .boolean), [], 11062)) (M := (2, (some .boolean), [], ev_b248)) [] rfl rfl rfl rfl (by decide +kernel) ev_k248 ev_cc248
set_option maxRecDepth 100000 in
theorem ev_m249 : ev_Mok 249 := ev_mk (N := (⟨"PathProver$Sets", "sizeOf", "(I)I"⟩, prog_11_method_5_code, 2, (some .int), [], 10161)) (M := (2, (some .int), [], ev_b249)) [] rfl rfl rfl rfl (by decide +kernel) ev_k249 ev_cc249
set_option maxRecDepth 100000 in
theorem ev_m250 : ev_Mok 250 := ev_mk (N := (⟨"PathProver$Sets", "add", "([II)I"⟩, prog_11_method_8_code, 9, (some .int), [], 9112)) (M := (9, (some .int), [], ev_b250)) [] rfl rfl rfl rfl (by decide +kernel) ev_k250 ev_cc250
set_option maxRecDepth 100000 in
theorem ev_m251 : ev_Mok 251 := ev_mk (N := (⟨"PathProver$Sets", "encode", "([II)I"⟩, prog_11_method_11_code, 13, (some .int), [], 9116)) (M := (13, (some .int), [], ev_b251)) [] rfl rfl rfl rfl (by decide +kernel) ev_k251 ev_cc251
set_option maxRecDepth 100000 in
theorem ev_m252 : ev_Mok 252 := ev_mk (N := (⟨"PathProver$Sets", "headOf", "(I)J"⟩, prog_11_method_6_code, 2, (some .long), [], 9122)) (M := (2, (some .long), [], ev_b252)) [] rfl rfl rfl rfl (by decide +kernel) ev_k252 ev_cc252
set_option maxRecDepth 100000 in
theorem ev_m253 : ev_Mok 253 := ev_mk (N := (⟨"PathProver$Sets", "isWork", "(II)Z"⟩, prog_11_method_9_code, 6, (some .boolean), [], 9127)) (M := (6, (some .boolean), [], ev_b253)) [] rfl rfl rfl rfl (by decide +kernel) ev_k253 ev_cc253
set_option maxRecDepth 100000 in
theorem ev_m254 : ev_Mok 254 := ev_mk (N := (⟨"PathProver$Sets", "keep", "(III)I"⟩, prog_11_method_10_code, 6, (some .int), [], 9132)) (M := (6, (some .int), [], ev_b254)) [] rfl rfl rfl rfl (by decide +kernel) ev_k254 ev_cc254
set_option maxRecDepth 100000 in
theorem ev_m255 : ev_Mok 255 := ev_mk (N := (⟨"PathProver$Sets", "forget", "()V"⟩, prog_11_method_3_code, 1, none, [], 7193)) (M := (1, none, [], ev_b255)) [] rfl rfl rfl rfl (by decide +kernel) ev_k255 ev_cc255
set_option maxRecDepth 100000 in
theorem ev_m256 : ev_Mok 256 := ev_mk (N := (⟨"PathProver$Sets", "clear", "(I)V"⟩, prog_11_method_2_code, 2, none, [], 7183)) (M := (2, none, [], ev_b256)) [] rfl rfl rfl rfl (by decide +kernel) ev_k256 ev_cc256
set_option maxRecDepth 100000 in
theorem ev_m257 : ev_Mok 257 := ev_mk (N := (⟨"PathProver$Space", "evaluate", "(I[J)V"⟩, prog_13_method_10_code, 12, none, [], 8220)) (M := (12, none, [], ev_b257)) [] rfl rfl rfl rfl (by decide +kernel) ev_k257 ev_cc257
set_option maxRecDepth 100000 in
theorem ev_m258 : ev_Mok 258 := ev_mk (N := (⟨"PathProver$Space", "keepCommon", "([J[J)V"⟩, prog_13_method_9_code, 4, none, [], 9138)) (M := (4, none, [], ev_b258)) [] rfl rfl rfl rfl (by decide +kernel) ev_k258 ev_cc258
set_option maxRecDepth 100000 in
theorem ev_m259 : ev_Mok 259 := ev_mk (N := (⟨"PathProver$Space", "isChosen", "(II)Z"⟩, prog_13_method_11_code, 4, (some .boolean), [], 9067)) (M := (4, (some .boolean), [], ev_b259)) [] rfl rfl rfl rfl (by decide +kernel) ev_k259 ev_cc259
set_option maxRecDepth 100000 in
theorem ev_m260 : ev_Mok 260 := ev_mk (N := (⟨"PathProver$Space", "spread", "(I[J)V"⟩, prog_13_method_12_code, 10, none, [], 9087)) (M := (10, none, [], ev_b260)) [] rfl rfl rfl rfl (by decide +kernel) ev_k260 ev_cc260
set_option maxRecDepth 100000 in
theorem ev_m261 : ev_Mok 261 := ev_mk (N := (⟨"PathProver$Space", "project", "(I)V"⟩, prog_13_method_13_code, 9, none, [], 9091)) (M := (9, none, [], ev_b261)) [] rfl rfl rfl rfl (by decide +kernel) ev_k261 ev_cc261
set_option maxRecDepth 100000 in
theorem ev_m262 : ev_Mok 262 := ev_mk (N := (⟨"PathProver$Space", "inverse", "(I)J"⟩, prog_13_method_5_code, 2, (some .long), [], 10232)) (M := (2, (some .long), [], ev_b262)) [] rfl rfl rfl rfl (by decide +kernel) ev_k262 ev_cc262
set_option maxRecDepth 100000 in
theorem ev_m263 : ev_Mok 263 := ev_mk (N := (⟨"PathProver$Space", "digitOf", "(II)I"⟩, prog_13_method_6_code, 6, (some .int), [], 9208)) (M := (6, (some .int), [], ev_b263)) [] rfl rfl rfl rfl (by decide +kernel) ev_k263 ev_cc263
set_option maxRecDepth 100000 in
theorem ev_m264 : ev_Mok 264 := ev_mk (N := (⟨"PathProver$Space", "digit", "(II)I"⟩, prog_13_method_4_code, 3, (some .int), [], 10136)) (M := (3, (some .int), [], ev_b264)) [] rfl rfl rfl rfl (by decide +kernel) ev_k264 ev_cc264
set_option maxRecDepth 100000 in
theorem ev_m265 : ev_Mok 265 := ev_mk (N := (⟨"PathProver$Space", "know", "()V"⟩, prog_13_method_7_code, 4, none, [], 7177)) (M := (4, none, [], ev_b265)) [] rfl rfl rfl rfl (by decide +kernel) ev_k265 ev_cc265
set_option maxRecDepth 100000 in
theorem ev_m266 : ev_Mok 266 := ev_mk (N := (⟨"PathProver$Space", "sizeOver", "(I)I"⟩, prog_13_method_14_code, 4, (some .int), [], 9171)) (M := (4, (some .int), [], ev_b266)) [] rfl rfl rfl rfl (by decide +kernel) ev_k266 ev_cc266
set_option maxRecDepth 100000 in
theorem ev_m267 : ev_Mok 267 := ev_mk (N := (⟨"PathProver$Space", "listStates", "([J)I"⟩, prog_13_method_8_code, 7, (some .int), [], 9096)) (M := (7, (some .int), [], ev_b267)) [] rfl rfl rfl rfl (by decide +kernel) ev_k267 ev_cc267
set_option maxRecDepth 100000 in
theorem ev_m268 : ev_Mok 268 := ev_mk (N := (⟨"PathProver$Space", "begin", "(LPathProver$Model;)V"⟩, prog_13_method_2_code, 4, none, [], 7118)) (M := (4, none, [], ev_b268)) [] rfl rfl rfl rfl (by decide +kernel) ev_k268 ev_cc268
set_option maxRecDepth 100000 in
theorem ev_m269 : ev_Mok 269 := ev_mk (N := (⟨"PathProver$Space", "keepWorths", "(II)V"⟩, prog_13_method_3_code, 4, none, [], 7127)) (M := (4, none, [], ev_b269)) [] rfl rfl rfl rfl (by decide +kernel) ev_k269 ev_cc269
set_option maxRecDepth 100000 in
theorem ev_m270 : ev_Mok 270 := ev_mk (N := (⟨"PathProver$Relation", "isAbsent", "(I)Z"⟩, prog_9_method_39_code, 2, (some .boolean), [], 11058)) (M := (2, (some .boolean), [], ev_b270)) [] rfl rfl rfl rfl (by decide +kernel) ev_k270 ev_cc270
set_option maxRecDepth 100000 in
theorem ev_m271 : ev_Mok 271 := ev_mk (N := (⟨"PathProver$Relation", "layList", "()V"⟩, prog_9_method_42_code, 2, none, [], 10200)) (M := (2, none, [], ev_b271)) [] rfl rfl rfl rfl (by decide +kernel) ev_k271 ev_cc271
set_option maxRecDepth 100000 in
theorem ev_m272 : ev_Mok 272 := ev_mk (N := (⟨"PathProver$Relation", "recall", "(I)V"⟩, prog_9_method_41_code, 3, none, [], 11071)) (M := (3, none, [], ev_b272)) [] rfl rfl rfl rfl (by decide +kernel) ev_k272 ev_cc272
set_option maxRecDepth 100000 in
theorem ev_m273 : ev_Mok 273 := ev_mk (N := (⟨"PathProver$Relation", "rowCount", "()I"⟩, prog_9_method_35_code, 1, (some .int), [], 11017)) (M := (1, (some .int), [], ev_b273)) [] rfl rfl rfl rfl (by decide +kernel) ev_k273 ev_cc273
set_option maxRecDepth 100000 in
theorem ev_m274 : ev_Mok 274 := ev_mk (N := (⟨"PathProver$Relation", "clearBits", "(II)V"⟩, prog_9_method_40_code, 3, none, [], 9212)) (M := (3, none, [], ev_b274)) [] rfl rfl rfl rfl (by decide +kernel) ev_k274 ev_cc274
set_option maxRecDepth 100000 in
theorem ev_m275 : ev_Mok 275 := ev_mk (N := (⟨"PathProver$Relation", "pose", "(II)Z"⟩, prog_9_method_48_code, 9, (some .boolean), [], 10132)) (M := (9, (some .boolean), [], ev_b275)) [] rfl rfl rfl rfl (by decide +kernel) ev_k275 ev_cc275
set_option maxRecDepth 100000 in
theorem ev_m276 : ev_Mok 276 := ev_mk (N := (⟨"PathProver$Relation", "choose", "()V"⟩, prog_9_method_50_code, 10, none, [], 10192)) (M := (10, none, [], ev_b276)) [] rfl rfl rfl rfl (by decide +kernel) ev_k276 ev_cc276
set_option maxRecDepth 100000 in
theorem ev_m277 : ev_Mok 277 := ev_mk (N := (⟨"PathProver$Relation", "spell", "()V"⟩, prog_9_method_53_code, 4, none, [], 10204)) (M := (4, none, [], ev_b277)) [] rfl rfl rfl rfl (by decide +kernel) ev_k277 ev_cc277
set_option maxRecDepth 100000 in
theorem ev_m278 : ev_Mok 278 := ev_mk (N := (⟨"PathProver$Relation", "sift", "()V"⟩, prog_9_method_57_code, 10, none, [], 10216)) (M := (10, none, [], ev_b278)) [] rfl rfl rfl rfl (by decide +kernel) ev_k278 ev_cc278
set_option maxRecDepth 100000 in
theorem ev_m279 : ev_Mok 279 := ev_mk (N := (⟨"PathProver$Relation", "leave", "([IIII)I"⟩, prog_9_method_60_code, 9, (some .int), [], 10237)) (M := (9, (some .int), [], ev_b279)) [] rfl rfl rfl rfl (by decide +kernel) ev_k279 ev_cc279
set_option maxRecDepth 100000 in
theorem ev_m280 : ev_Mok 280 := ev_mk (N := (⟨"PathProver$Relation", "extend", "(IIII)I"⟩, prog_9_method_54_code, 9, (some .int), [], 10208)) (M := (9, (some .int), [], ev_b280)) [] rfl rfl rfl rfl (by decide +kernel) ev_k280 ev_cc280
set_option maxRecDepth 100000 in
theorem ev_m281 : ev_Mok 281 := ev_mk (N := (⟨"PathProver$Relation", "isLeft", "(I)Z"⟩, prog_9_method_55_code, 8, (some .boolean), [], 10212)) (M := (8, (some .boolean), [], ev_b281)) [] rfl rfl rfl rfl (by decide +kernel) ev_k281 ev_cc281
set_option maxRecDepth 100000 in
theorem ev_m282 : ev_Mok 282 := ev_mk (N := (⟨"PathProver$Relation", "indexOf", "(I)I"⟩, prog_9_method_56_code, 4, (some .int), [], 10157)) (M := (4, (some .int), [], ev_b282)) [] rfl rfl rfl rfl (by decide +kernel) ev_k282 ev_cc282
set_option maxRecDepth 100000 in
theorem ev_m283 : ev_Mok 283 := ev_mk (N := (⟨"PathProver$Relation", "listDigits", "(II)V"⟩, prog_9_method_12_code, 7, none, [], 9202)) (M := (7, none, [], ev_b283)) [] rfl rfl rfl rfl (by decide +kernel) ev_k283 ev_cc283
set_option maxRecDepth 100000 in
theorem ev_m284 : ev_Mok 284 := ev_mk (N := (⟨"PathProver$Relation", "narrow", "(I)V"⟩, prog_9_method_52_code, 6, none, [], 10188)) (M := (6, none, [], ev_b284)) [] rfl rfl rfl rfl (by decide +kernel) ev_k284 ev_cc284
set_option maxRecDepth 100000 in
theorem ev_m285 : ev_Mok 285 := ev_mk (N := (⟨"PathProver$Relation", "listBits", "([J[III)I"⟩, prog_9_method_13_code, 10, (some .int), [], 9217)) (M := (10, (some .int), [], ev_b285)) [] rfl rfl rfl rfl (by decide +kernel) ev_k285 ev_cc285
set_option maxRecDepth 100000 in
theorem ev_m286 : ev_Mok 286 := ev_mk (N := (⟨"PathProver$Relation", "narrowTo", "(II)V"⟩, prog_9_method_49_code, 3, none, [], 10165)) (M := (3, none, [], ev_b286)) [] rfl rfl rfl rfl (by decide +kernel) ev_k286 ev_cc286
set_option maxRecDepth 100000 in
theorem ev_m287 : ev_Mok 287 := ev_mk (N := (⟨"PathProver$Relation", "sizeOfRow", "(I)I"⟩, prog_9_method_38_code, 2, (some .int), [], 12055)) (M := (2, (some .int), [], ev_b287)) [] rfl rfl rfl rfl (by decide +kernel) ev_k287 ev_cc287
set_option maxRecDepth 100000 in
theorem ev_m288 : ev_Mok 288 := ev_mk (N := (⟨"PathProver$Relation", "begin", "()V"⟩, prog_9_method_2_code, 2, none, [], 9142)) (M := (2, none, [], ev_b288)) [] rfl rfl rfl rfl (by decide +kernel) ev_k288 ev_cc288
set_option maxRecDepth 100000 in
theorem ev_m289 : ev_Mok 289 := ev_mk (N := (⟨"PathProver$Relation", "takeLines", "()V"⟩, prog_9_method_3_code, 6, none, [], 9153)) (M := (6, none, [], ev_b289)) [] rfl rfl rfl rfl (by decide +kernel) ev_k289 ev_cc289
set_option maxRecDepth 100000 in
theorem ev_m290 : ev_Mok 290 := ev_mk (N := (⟨"PathProver$Relation", "splitPieces", "()V"⟩, prog_9_method_16_code, 7, none, [], 10035)) (M := (7, none, [], ev_b290)) [] rfl rfl rfl rfl (by decide +kernel) ev_k290 ev_cc290
set_option maxRecDepth 100000 in
theorem ev_m291 : ev_Mok 291 := ev_mk (N := (⟨"PathProver$Relation", "takeEquals", "()V"⟩, prog_9_method_19_code, 11, none, [], 10047)) (M := (11, none, [], ev_b291)) [] rfl rfl rfl rfl (by decide +kernel) ev_k291 ev_cc291
set_option maxRecDepth 100000 in
theorem ev_m292 : ev_Mok 292 := ev_mk (N := (⟨"PathProver$Relation", "takePieces", "()V"⟩, prog_9_method_21_code, 13, none, [], 10057)) (M := (13, none, [], ev_b292)) [] rfl rfl rfl rfl (by decide +kernel) ev_k292 ev_cc292
set_option maxRecDepth 100000 in
theorem ev_m293 : ev_Mok 293 := ev_mk (N := (⟨"PathProver$Relation", "partClasses", "()V"⟩, prog_9_method_31_code, 3, none, [], 10085)) (M := (3, none, [], ev_b293)) [] rfl rfl rfl rfl (by decide +kernel) ev_k293 ev_cc293
set_option maxRecDepth 100000 in
theorem ev_m294 : ev_Mok 294 := ev_mk (N := (⟨"PathProver$Relation", "openRows", "()V"⟩, prog_9_method_34_code, 3, none, [], 10108)) (M := (3, none, [], ev_b294)) [] rfl rfl rfl rfl (by decide +kernel) ev_k294 ev_cc294
set_option maxRecDepth 100000 in
theorem ev_m295 : ev_Mok 295 := ev_mk (N := (⟨"PathProver$Relation", "findRow", "(I)Z"⟩, prog_9_method_36_code, 2, (some .boolean), [], 10113)) (M := (2, (some .boolean), [], ev_b295)) [] rfl rfl rfl rfl (by decide +kernel) ev_k295 ev_cc295
set_option maxRecDepth 100000 in
theorem ev_m296 : ev_Mok 296 := ev_mk (N := (⟨"PathProver$Relation", "keepRow", "(I)V"⟩, prog_9_method_37_code, 2, none, [], 11009)) (M := (2, none, [], ev_b296)) [] rfl rfl rfl rfl (by decide +kernel) ev_k296 ev_cc296
set_option maxRecDepth 100000 in
theorem ev_m297 : ev_Mok 297 := ev_mk (N := (⟨"PathProver$Relation", "noteInputs", "(III)V"⟩, prog_9_method_32_code, 12, none, [], 10100)) (M := (12, none, [], ev_b297)) [] rfl rfl rfl rfl (by decide +kernel) ev_k297 ev_cc297
set_option maxRecDepth 100000 in
theorem ev_m298 : ev_Mok 298 := ev_mk (N := (⟨"PathProver$Relation", "refine", "(I[II)V"⟩, prog_9_method_14_code, 13, none, [], 10089)) (M := (13, none, [], ev_b298)) [] rfl rfl rfl rfl (by decide +kernel) ev_k298 ev_cc298
set_option maxRecDepth 100000 in
theorem ev_m299 : ev_Mok 299 := ev_mk (N := (⟨"PathProver$Relation", "partBy", "(I)V"⟩, prog_9_method_33_code, 5, none, [], 10104)) (M := (5, none, [], ev_b299)) [] rfl rfl rfl rfl (by decide +kernel) ev_k299 ev_cc299
