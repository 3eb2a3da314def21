/-! Printed by wip/whole/gen8.py: further methods -/
set_option maxRecDepth 100000 in
theorem ev_m300 : ev_Mok 300 := ev_mk (N := (⟨"PathProver$Relation", "hashOf", "(II)I"⟩, prog_9_method_15_code, 3, (some .int), [], 10094)) (M := (3, (some .int), [], ev_b300)) [] rfl rfl rfl rfl (by decide +kernel) ev_k300 ev_cc300
set_option maxRecDepth 100000 in
theorem ev_m301 : ev_Mok 301 := ev_mk (N := (⟨"PathProver$Relation", "fits", "(III)Z"⟩, prog_9_method_6_code, 8, (some .boolean), [], 9167)) (M := (8, (some .boolean), [], ev_b301)) [] rfl rfl rfl rfl (by decide +kernel) ev_k301 ev_cc301
set_option maxRecDepth 100000 in
theorem ev_m302 : ev_Mok 302 := ev_mk (N := (⟨"PathProver$Relation", "takeTable", "(III)V"⟩, prog_9_method_26_code, 12, none, [], 10074)) (M := (12, none, [], ev_b302)) [] rfl rfl rfl rfl (by decide +kernel) ev_k302 ev_cc302
set_option maxRecDepth 100000 in
theorem ev_m303 : ev_Mok 303 := ev_mk (N := (⟨"PathProver$Relation", "reserve", "(I)I"⟩, prog_9_method_11_code, 3, (some .int), [], 9189)) (M := (3, (some .int), [], ev_b303)) [] rfl rfl rfl rfl (by decide +kernel) ev_k303 ev_cc303
set_option maxRecDepth 100000 in
theorem ev_m304 : ev_Mok 304 := ev_mk (N := (⟨"PathProver$Relation", "openTable", "(II)I"⟩, prog_9_method_9_code, 6, (some .int), [], 9185)) (M := (6, (some .int), [], ev_b304)) [] rfl rfl rfl rfl (by decide +kernel) ev_k304 ev_cc304
set_option maxRecDepth 100000 in
theorem ev_m305 : ev_Mok 305 := ev_mk (N := (⟨"PathProver$Relation", "sideOfNext", "(I)I"⟩, prog_9_method_20_code, 8, (some .int), [], 10051)) (M := (8, (some .int), [], ev_b305)) [] rfl rfl rfl rfl (by decide +kernel) ev_k305 ev_cc305
set_option maxRecDepth 100000 in
theorem ev_m306 : ev_Mok 306 := ev_mk (N := (⟨"PathProver$Relation", "hasRoom", "(II)Z"⟩, prog_9_method_4_code, 3, (some .boolean), [], 9162)) (M := (3, (some .boolean), [], ev_b306)) [] rfl rfl rfl rfl (by decide +kernel) ev_k306 ev_cc306
set_option maxRecDepth 100000 in
theorem ev_m307 : ev_Mok 307 := ev_mk (N := (⟨"PathProver$Relation", "tabulate", "(I)V"⟩, prog_9_method_8_code, 9, none, [], 9181)) (M := (9, none, [], ev_b307)) [] rfl rfl rfl rfl (by decide +kernel) ev_k307 ev_cc307
set_option maxRecDepth 100000 in
theorem ev_m308 : ev_Mok 308 := ev_mk (N := (⟨"PathProver$Relation", "putAside", "(II)V"⟩, prog_9_method_5_code, 6, none, [], 10008)) (M := (6, none, [], ev_b308)) [] rfl rfl rfl rfl (by decide +kernel) ev_k308 ev_cc308
set_option maxRecDepth 100000 in
theorem ev_m309 : ev_Mok 309 := ev_mk (N := (⟨"PathProver$Graph", "memberOf", "(I)I"⟩, prog_2_method_6_code, 2, (some .int), [], 11066)) (M := (2, (some .int), [], ev_b309)) [] rfl rfl rfl rfl (by decide +kernel) ev_k309 ev_cc309
set_option maxRecDepth 100000 in
theorem ev_m310 : ev_Mok 310 := ev_mk (N := (⟨"PathProver$Graph", "visit", "()V"⟩, prog_2_method_7_code, 1, none, [], 11083)) (M := (1, none, [], ev_b310)) [] rfl rfl rfl rfl (by decide +kernel) ev_k310 ev_cc310
set_option maxRecDepth 100000 in
theorem ev_m311 : ev_Mok 311 := ev_mk (N := (⟨"PathProver$Graph", "findFair", "()V"⟩, prog_2_method_15_code, 1, none, [], 11232)) (M := (1, none, [], ev_b311)) [] rfl rfl rfl rfl (by decide +kernel) ev_k311 ev_cc311
set_option maxRecDepth 100000 in
theorem ev_m312 : ev_Mok 312 := ev_mk (N := (⟨"PathProver$Graph", "writeTrail", "(I[II)I"⟩, prog_2_method_13_code, 7, (some .int), [], 11236)) (M := (7, (some .int), [], ev_b312)) [] rfl rfl rfl rfl (by decide +kernel) ev_k312 ev_cc312
set_option maxRecDepth 100000 in
theorem ev_m313 : ev_Mok 313 := ev_mk (N := (⟨"PathProver$Graph", "fetch", "(I)V"⟩, prog_2_method_8_code, 2, none, [], 12023)) (M := (2, none, [], ev_b313)) [] rfl rfl rfl rfl (by decide +kernel) ev_k313 ev_cc313
set_option maxRecDepth 100000 in
theorem ev_m314 : ev_Mok 314 := ev_mk (N := (⟨"PathProver$Graph", "lead", "(I[J[J)V"⟩, prog_2_method_10_code, 5, none, [], 12014)) (M := (5, none, [], ev_b314)) [] rfl rfl rfl rfl (by decide +kernel) ev_k314 ev_cc314
set_option maxRecDepth 100000 in
theorem ev_m315 : ev_Mok 315 := ev_mk (N := (⟨"PathProver$Graph", "clearNodes", "()V"⟩, prog_2_method_4_code, 3, none, [], 11041)) (M := (3, none, [], ev_b315)) [] rfl rfl rfl rfl (by decide +kernel) ev_k315 ev_cc315
set_option maxRecDepth 100000 in
theorem ev_m316 : ev_Mok 316 := ev_mk (N := (⟨"PathProver$Graph", "openNext", "()V"⟩, prog_2_method_11_code, 2, none, [], 11045)) (M := (2, none, [], ev_b316)) [] rfl rfl rfl rfl (by decide +kernel) ev_k316 ev_cc316
set_option maxRecDepth 100000 in
theorem ev_m317 : ev_Mok 317 := ev_mk (N := (⟨"PathProver$Graph", "isEmptied", "([J)Z"⟩, prog_2_method_18_code, 2, (some .boolean), [], 11049)) (M := (2, (some .boolean), [], ev_b317)) [] rfl rfl rfl rfl (by decide +kernel) ev_k317 ev_cc317
set_option maxRecDepth 100000 in
theorem ev_m318 : ev_Mok 318 := ev_mk (N := (⟨"PathProver$Graph", "node", "(II)I"⟩, prog_2_method_2_code, 3, (some .int), [], 11026)) (M := (3, (some .int), [], ev_b318)) [] rfl rfl rfl rfl (by decide +kernel) ev_k318 ev_cc318
set_option maxRecDepth 100000 in
theorem ev_m319 : ev_Mok 319 := ev_mk (N := (⟨"PathProver$Graph", "setNode", "(III)V"⟩, prog_2_method_3_code, 4, none, [], 11022)) (M := (4, none, [], ev_b319)) [] rfl rfl rfl rfl (by decide +kernel) ev_k319 ev_cc319
set_option maxRecDepth 100000 in
theorem ev_m320 : ev_Mok 320 := ev_mk (N := (⟨"PathProver$Graph", "sweep", "(Z)V"⟩, prog_2_method_19_code, 2, none, [], 11212)) (M := (2, none, [], ev_b320)) [] rfl rfl rfl rfl (by decide +kernel) ev_k320 ev_cc320
set_option maxRecDepth 100000 in
theorem ev_m321 : ev_Mok 321 := ev_mk (N := (⟨"PathProver$Graph", "enterNext", "()V"⟩, prog_2_method_20_code, 1, none, [], 11157)) (M := (1, none, [], ev_b321)) [] rfl rfl rfl rfl (by decide +kernel) ev_k321 ev_cc321
set_option maxRecDepth 100000 in
theorem ev_m322 : ev_Mok 322 := ev_mk (N := (⟨"PathProver$Graph", "reckon", "(I[J[J[J)V"⟩, prog_2_method_14_code, 8, none, [], 11208)) (M := (8, none, [], ev_b322)) [] rfl rfl rfl rfl (by decide +kernel) ev_k322 ev_cc322
set_option maxRecDepth 100000 in
theorem ev_m323 : ev_Mok 323 := ev_mk (N := (⟨"PathProver$Graph", "open", "()V"⟩, prog_2_method_12_code, 7, none, [], 11087)) (M := (7, none, [], ev_b323)) [] rfl rfl rfl rfl (by decide +kernel) ev_k323 ev_cc323
set_option maxRecDepth 100000 in
theorem ev_m324 : ev_Mok 324 := ev_mk (N := (⟨"PathProver$Graph", "near", "()V"⟩, prog_2_method_16_code, 3, none, [], 11093)) (M := (3, none, [], ev_b324)) [] rfl rfl rfl rfl (by decide +kernel) ev_k324 ev_cc324
set_option maxRecDepth 100000 in
theorem ev_m325 : ev_Mok 325 := ev_mk (N := (⟨"PathProver$Graph", "enter", "(I)V"⟩, prog_2_method_21_code, 5, none, [], 11102)) (M := (5, none, [], ev_b325)) [] rfl rfl rfl rfl (by decide +kernel) ev_k325 ev_cc325
set_option maxRecDepth 100000 in
theorem ev_m326 : ev_Mok 326 := ev_mk (N := (⟨"PathProver$Graph", "descend", "(I)V"⟩, prog_2_method_23_code, 4, none, [], 11111)) (M := (4, none, [], ev_b326)) [] rfl rfl rfl rfl (by decide +kernel) ev_k326 ev_cc326
set_option maxRecDepth 100000 in
theorem ev_m327 : ev_Mok 327 := ev_mk (N := (⟨"PathProver$Graph", "circle", "()V"⟩, prog_2_method_30_code, 5, none, [], 11120)) (M := (5, none, [], ev_b327)) [] rfl rfl rfl rfl (by decide +kernel) ev_k327 ev_cc327
set_option maxRecDepth 100000 in
theorem ev_m328 : ev_Mok 328 := ev_mk (N := (⟨"PathProver$Graph", "climb", "()V"⟩, prog_2_method_25_code, 3, none, [], 11149)) (M := (3, none, [], ev_b328)) [] rfl rfl rfl rfl (by decide +kernel) ev_k328 ev_cc328
set_option maxRecDepth 100000 in
theorem ev_m329 : ev_Mok 329 := ev_mk (N := (⟨"PathProver$Graph", "isOpenRing", "(I)Z"⟩, prog_2_method_28_code, 7, (some .boolean), [], 11153)) (M := (7, (some .boolean), [], ev_b329)) [] rfl rfl rfl rfl (by decide +kernel) ev_k329 ev_cc329
set_option maxRecDepth 100000 in
theorem ev_m330 : ev_Mok 330 := ev_mk (N := (⟨"PathProver$Graph", "isFair", "(I)Z"⟩, prog_2_method_29_code, 5, (some .boolean), [], 11124)) (M := (5, (some .boolean), [], ev_b330)) [] rfl rfl rfl rfl (by decide +kernel) ev_k330 ev_cc330
set_option maxRecDepth 100000 in
theorem ev_m331 : ev_Mok 331 := ev_mk (N := (⟨"PathProver$Graph", "startOfRing", "(I)I"⟩, prog_2_method_27_code, 3, (some .int), [], 11141)) (M := (3, (some .int), [], ev_b331)) [] rfl rfl rfl rfl (by decide +kernel) ev_k331 ev_cc331
set_option maxRecDepth 100000 in
theorem ev_m332 : ev_Mok 332 := ev_mk (N := (⟨"PathProver$Graph", "settle", "(I)V"⟩, prog_2_method_31_code, 8, none, [], 11137)) (M := (8, none, [], ev_b332)) [] rfl rfl rfl rfl (by decide +kernel) ev_k332 ev_cc332
set_option maxRecDepth 100000 in
theorem ev_m333 : ev_Mok 333 := ev_mk (N := (⟨"PathProver$Graph", "leave", "(I)V"⟩, prog_2_method_26_code, 3, none, [], 11145)) (M := (3, none, [], ev_b333)) [] rfl rfl rfl rfl (by decide +kernel) ev_k333 ev_cc333
set_option maxRecDepth 100000 in
theorem ev_m334 : ev_Mok 334 := ev_mk (N := (⟨"PathProver$Graph", "nextUnseen", "(I)I"⟩, prog_2_method_24_code, 5, (some .int), [], 11115)) (M := (5, (some .int), [], ev_b334)) [] rfl rfl rfl rfl (by decide +kernel) ev_k334 ev_cc334
set_option maxRecDepth 100000 in
theorem ev_m335 : ev_Mok 335 := ev_mk (N := (⟨"PathProver$Graph", "rowMeets", "([J)Z"⟩, prog_2_method_17_code, 3, (some .boolean), [], 11097)) (M := (3, (some .boolean), [], ev_b335)) [] rfl rfl rfl rfl (by decide +kernel) ev_k335 ev_cc335
set_option maxRecDepth 100000 in
theorem ev_m336 : ev_Mok 336 := ev_mk (N := (⟨"PathProver$Graph", "lowest", "()I"⟩, prog_2_method_22_code, 8, (some .int), [], 11106)) (M := (8, (some .int), [], ev_b336)) [] rfl rfl rfl rfl (by decide +kernel) ev_k336 ev_cc336
set_option maxRecDepth 100000 in
theorem ev_m337 : ev_Mok 337 := ev_mk (N := (⟨"PathProver$Graph", "begin", "()V"⟩, prog_2_method_5_code, 4, none, [], 11013)) (M := (4, none, [], ev_b337)) [] rfl rfl rfl rfl (by decide +kernel) ev_k337 ev_cc337
set_option maxRecDepth 100000 in
theorem ev_m338 : ev_Mok 338 := ev_mk (N := (⟨"PathProver$Graph", "explore", "()V"⟩, prog_2_method_9_code, 2, none, [], 11034)) (M := (2, none, [], ev_b338)) [] rfl rfl rfl rfl (by decide +kernel) ev_k338 ev_cc338
set_option maxRecDepth 100000 in
theorem ev_m339 : ev_Mok 339 := ev_mk (N := (⟨"PathProver$Prover", "ask", "(I)V"⟩, prog_8_method_12_code, 3, none, [], 12027)) (M := (3, none, [], ev_b339)) [] rfl rfl rfl rfl (by decide +kernel) ev_k339 ev_cc339
set_option maxRecDepth 100000 in
theorem ev_m340 : ev_Mok 340 := ev_mk (N := (⟨"PathProver$Prover", "isTrueIn", "(II)Z"⟩, prog_8_method_9_code, 3, (some .boolean), [], 12171)) (M := (3, (some .boolean), [], ev_b340)) [] rfl rfl rfl rfl (by decide +kernel) ev_k340 ev_cc340
set_option maxRecDepth 100000 in
theorem ev_m341 : ev_Mok 341 := ev_mk (N := (⟨"PathProver$Prover", "isSeeking", "()Z"⟩, prog_8_method_14_code, 1, (some .boolean), [], 11162)) (M := (1, (some .boolean), [], ev_b341)) [] rfl rfl rfl rfl (by decide +kernel) ev_k341 ev_cc341
set_option maxRecDepth 100000 in
theorem ev_m342 : ev_Mok 342 := ev_mk (N := (⟨"PathProver$Prover", "seekOn", "()V"⟩, prog_8_method_16_code, 7, none, [], 11166)) (M := (7, none, [], ev_b342)) [] rfl rfl rfl rfl (by decide +kernel) ev_k342 ev_cc342
set_option maxRecDepth 100000 in
theorem ev_m343 : ev_Mok 343 := ev_mk (N := (⟨"PathProver$Prover", "advance", "()Z"⟩, prog_8_method_15_code, 1, (some .boolean), [], 11228)) (M := (1, (some .boolean), [], ev_b343)) [] rfl rfl rfl rfl (by decide +kernel) ev_k343 ev_cc343
set_option maxRecDepth 100000 in
theorem ev_m344 : ev_Mok 344 := ev_mk (N := (⟨"PathProver$Prover", "ringOn", "()V"⟩, prog_8_method_35_code, 3, none, [], 12000)) (M := (3, none, [], ev_b344)) [] rfl rfl rfl rfl (by decide +kernel) ev_k344 ev_cc344
set_option maxRecDepth 100000 in
theorem ev_m345 : ev_Mok 345 := ev_mk (N := (⟨"PathProver$Prover", "watchOn", "()V"⟩, prog_8_method_37_code, 3, none, [], 12018)) (M := (3, none, [], ev_b345)) [] rfl rfl rfl rfl (by decide +kernel) ev_k345 ev_cc345
set_option maxRecDepth 100000 in
theorem ev_m346 : ev_Mok 346 := ev_mk (N := (⟨"PathProver$Prover", "legs", "()I"⟩, prog_8_method_34_code, 1, (some .int), [], 12004)) (M := (1, (some .int), [], ev_b346)) [] rfl rfl rfl rfl (by decide +kernel) ev_k346 ev_cc346
set_option maxRecDepth 100000 in
theorem ev_m347 : ev_Mok 347 := ev_mk (N := (⟨"PathProver$Prover", "startLeg", "()V"⟩, prog_8_method_33_code, 3, none, [], 12008)) (M := (3, none, [], ev_b347)) [] rfl rfl rfl rfl (by decide +kernel) ev_k347 ev_cc347
set_option maxRecDepth 100000 in
theorem ev_m348 : ev_Mok 348 := ev_mk (N := (⟨"PathProver$Prover", "hasSet", "(I)Z"⟩, prog_8_method_17_code, 3, (some .boolean), [], 11174)) (M := (3, (some .boolean), [], ev_b348)) [] rfl rfl rfl rfl (by decide +kernel) ev_k348 ev_cc348
set_option maxRecDepth 100000 in
theorem ev_m349 : ev_Mok 349 := ev_mk (N := (⟨"PathProver$Prover", "findPart", "(I)Z"⟩, prog_8_method_18_code, 3, (some .boolean), [], 11178)) (M := (3, (some .boolean), [], ev_b349)) [] rfl rfl rfl rfl (by decide +kernel) ev_k349 ev_cc349
set_option maxRecDepth 100000 in
theorem ev_m350 : ev_Mok 350 := ev_mk (N := (⟨"PathProver$Prover", "combine", "(III)Z"⟩, prog_8_method_20_code, 6, (some .boolean), [], 11189)) (M := (6, (some .boolean), [], ev_b350)) [] rfl rfl rfl rfl (by decide +kernel) ev_k350 ev_cc350
set_option maxRecDepth 100000 in
theorem ev_m351 : ev_Mok 351 := ev_mk (N := (⟨"PathProver$Prover", "keep", "(I)V"⟩, prog_8_method_25_code, 3, none, [], 11223)) (M := (3, none, [], ev_b351)) [] rfl rfl rfl rfl (by decide +kernel) ev_k351 ev_cc351
set_option maxRecDepth 100000 in
theorem ev_m352 : ev_Mok 352 := ev_mk (N := (⟨"PathProver$Prover", "join", "(I[J[J[J)V"⟩, prog_8_method_24_code, 6, none, [], 11193)) (M := (6, none, [], ev_b352)) [] rfl rfl rfl rfl (by decide +kernel) ev_k352 ev_cc352
set_option maxRecDepth 100000 in
theorem ev_m353 : ev_Mok 353 := ev_mk (N := (⟨"PathProver$Prover", "prepare", "(I[J[J[J)V"⟩, prog_8_method_22_code, 13, none, [], 11198)) (M := (13, none, [], ev_b353)) [] rfl rfl rfl rfl (by decide +kernel) ev_k353 ev_cc353
set_option maxRecDepth 100000 in
theorem ev_m354 : ev_Mok 354 := ev_mk (N := (⟨"PathProver$Prover", "plainOf", "(I)I"⟩, prog_8_method_21_code, 1, (some .int), [], 11204)) (M := (1, (some .int), [], ev_b354)) [] rfl rfl rfl rfl (by decide +kernel) ev_k354 ev_cc354
set_option maxRecDepth 100000 in
theorem ev_m355 : ev_Mok 355 := ev_mk (N := (⟨"PathProver$Prover", "finish", "(I[J)V"⟩, prog_8_method_23_code, 4, none, [], 11216)) (M := (4, none, [], ev_b355)) [] rfl rfl rfl rfl (by decide +kernel) ev_k355 ev_cc355
set_option maxRecDepth 100000 in
theorem ev_m356 : ev_Mok 356 := ev_mk (N := (⟨"PathProver$Prover", "isShownFalse", "(I)Z"⟩, prog_8_method_27_code, 1, (some .boolean), [], 11201)) (M := (1, (some .boolean), [], ev_b356)) [] rfl rfl rfl rfl (by decide +kernel) ev_k356 ev_cc356
set_option maxRecDepth 100000 in
theorem ev_m357 : ev_Mok 357 := ev_mk (N := (⟨"PathProver$Prover", "newSet", "()I"⟩, prog_8_method_19_code, 2, (some .int), [], 11183)) (M := (2, (some .int), [], ev_b357)) [] rfl rfl rfl rfl (by decide +kernel) ev_k357 ev_cc357
set_option maxRecDepth 100000 in
theorem ev_m358 : ev_Mok 358 := ev_mk (N := (⟨"PathProver$Prover", "seek", "(IIII)V"⟩, prog_8_method_13_code, 5, none, [], 12031)) (M := (5, none, [], ev_b358)) [] rfl rfl rfl rfl (by decide +kernel) ev_k358 ev_cc358
set_option maxRecDepth 100000 in
theorem ev_m359 : ev_Mok 359 := ev_mk (N := (⟨"PathProver$Prover", "worthOf", "(II)I"⟩, prog_8_method_8_code, 7, (some .int), [], 12157)) (M := (7, (some .int), [], ev_b359)) [] rfl rfl rfl rfl (by decide +kernel) ev_k359 ev_cc359
