/-! Printed by wip/whole/gen8.py: further methods -/
set_option maxRecDepth 100000 in
theorem ev_m360 : ev_Mok 360 := ev_mk (N := (⟨"PathProver$Prover", "follower", "(I)I"⟩, prog_8_method_6_code, 2, (some .int), [], 12049)) (M := (2, (some .int), [], ev_b360)) [] rfl rfl rfl rfl (by decide +kernel) ev_k360 ev_cc360
set_option maxRecDepth 100000 in
theorem ev_m361 : ev_Mok 361 := ev_mk (N := (⟨"PathProver$Prover", "followers", "(I)I"⟩, prog_8_method_4_code, 2, (some .int), [], 11190)) (M := (2, (some .int), [], ev_b361)) [] rfl rfl rfl rfl (by decide +kernel) ev_k361 ev_cc361
set_option maxRecDepth 100000 in
theorem ev_m362 : ev_Mok 362 := ev_mk (N := (⟨"PathProver$Prover", "nth", "([JI)I"⟩, prog_8_method_7_code, 5, (some .int), [], 12033)) (M := (5, (some .int), [], ev_b362)) [] rfl rfl rfl rfl (by decide +kernel) ev_k362 ev_cc362
set_option maxRecDepth 100000 in
theorem ev_m363 : ev_Mok 363 := ev_mk (N := (⟨"PathProver$Prover", "initialState", "(I)I"⟩, prog_8_method_5_code, 2, (some .int), [], 12029)) (M := (2, (some .int), [], ev_b363)) [] rfl rfl rfl rfl (by decide +kernel) ev_k363 ev_cc363
set_option maxRecDepth 100000 in
theorem ev_m364 : ev_Mok 364 := ev_mk (N := (⟨"PathProver$Prover", "explore", "()V"⟩, prog_8_method_11_code, 1, none, [], 10169)) (M := (1, none, [], ev_b364)) [] rfl rfl rfl rfl (by decide +kernel) ev_k364 ev_cc364
set_option maxRecDepth 100000 in
theorem ev_m365 : ev_Mok 365 := ev_mk (N := (⟨"PathProver$Prover", "startToShow", "(I)I"⟩, prog_8_method_28_code, 4, (some .int), [], 11217)) (M := (4, (some .int), [], ev_b365)) [] rfl rfl rfl rfl (by decide +kernel) ev_k365 ev_cc365
set_option maxRecDepth 100000 in
theorem ev_m366 : ev_Mok 366 := ev_mk (N := (⟨"PathProver$Prover", "seekGoal", "(I)V"⟩, prog_8_method_29_code, 5, none, [], 11225)) (M := (5, none, [], ev_b366)) [] rfl rfl rfl rfl (by decide +kernel) ev_k366 ev_cc366
set_option maxRecDepth 100000 in
theorem ev_m367 : ev_Mok 367 := ev_mk (N := (⟨"PathProver$Prover", "seekWay", "(I)V"⟩, prog_8_method_30_code, 4, none, [], 11230)) (M := (4, none, [], ev_b367)) [] rfl rfl rfl rfl (by decide +kernel) ev_k367 ev_cc367
set_option maxRecDepth 100000 in
theorem ev_m368 : ev_Mok 368 := ev_mk (N := (⟨"PathProver$Prover", "seekPath", "(II)V"⟩, prog_8_method_32_code, 5, none, [], 11234)) (M := (5, none, [], ev_b368)) [] rfl rfl rfl rfl (by decide +kernel) ev_k368 ev_cc368
set_option maxRecDepth 100000 in
theorem ev_m369 : ev_Mok 369 := ev_mk (N := (⟨"PathProver$Prover", "display", "()I"⟩, prog_8_method_36_code, 1, (some .int), [], 12002)) (M := (1, (some .int), [], ev_b369)) [] rfl rfl rfl rfl (by decide +kernel) ev_k369 ev_cc369
set_option maxRecDepth 100000 in
theorem ev_m370 : ev_Mok 370 := ev_mk (N := (⟨"PathProver$Prover", "outerOf", "(I)I"⟩, prog_8_method_26_code, 3, (some .int), [], 11221)) (M := (3, (some .int), [], ev_b370)) [] rfl rfl rfl rfl (by decide +kernel) ev_k370 ev_cc370
set_option maxRecDepth 100000 in
theorem ev_m371 : ev_Mok 371 := ev_mk (N := (⟨"PathProver$Prover", "aim", "(I)V"⟩, prog_8_method_31_code, 9, none, [], 11238)) (M := (9, none, [], ev_b371)) [] rfl rfl rfl rfl (by decide +kernel) ev_k371 ev_cc371
set_option maxRecDepth 100000 in
theorem ev_m372 : ev_Mok 372 := ev_mk (N := (⟨"PathProver$Prover", "tally", "(II)I"⟩, prog_8_method_3_code, 6, (some .int), [], 11186)) (M := (6, (some .int), [], ev_b372)) [] rfl rfl rfl rfl (by decide +kernel) ev_k372 ev_cc372
set_option maxRecDepth 100000 in
theorem ev_m373 : ev_Mok 373 := ev_mk (N := (⟨"PathProver$Prover", "holdsAtStart", "(I)Z"⟩, prog_8_method_10_code, 4, (some .boolean), [], 11175)) (M := (4, (some .boolean), [], ev_b373)) [] rfl rfl rfl rfl (by decide +kernel) ev_k373 ev_cc373
set_option maxRecDepth 100000 in
theorem ev_m374 : ev_Mok 374 := ev_mk (N := (⟨"PathProver$Prover", "begin", "()V"⟩, prog_8_method_2_code, 1, none, [], 7126)) (M := (1, none, [], ev_b374)) [] rfl rfl rfl rfl (by decide +kernel) ev_k374 ev_cc374
set_option maxRecDepth 100000 in
theorem ev_m375 : ev_Mok 375 := ev_mk (N := (⟨"PathProver", "needCurrent", "()V"⟩, prog_1_method_25_code, 1, none, [], 12044)) (M := (1, none, [], ev_b375)) [] rfl rfl rfl rfl (by decide +kernel) ev_k375 ev_cc375
set_option maxRecDepth 100000 in
theorem ev_m376 : ev_Mok 376 := ev_mk (N := (⟨"PathProver", "drive", "()V"⟩, prog_1_method_20_code, 2, none, [], 10192)) (M := (2, none, [], ev_b376)) [] rfl rfl rfl rfl (by decide +kernel) ev_k376 ev_cc376
set_option maxRecDepth 100000 in
theorem ev_m377 : ev_Mok 377 := ev_mk (N := (⟨"PathProver", "has", "([JI)Z"⟩, prog_1_method_30_code, 2, (some .boolean), [], 10032)) (M := (2, (some .boolean), [], ev_b377)) [] rfl rfl rfl rfl (by decide +kernel) ev_k377 ev_cc377
set_option maxRecDepth 100000 in
theorem ev_m378 : ev_Mok 378 := ev_mk (N := (⟨"PathProver", "makeRow", "(I)V"⟩, prog_1_method_19_code, 2, none, [], 10036)) (M := (2, none, [], ev_b378)) [] rfl rfl rfl rfl (by decide +kernel) ev_k378 ev_cc378
set_option maxRecDepth 100000 in
theorem ev_m379 : ev_Mok 379 := ev_mk (N := (⟨"PathProver", "partsOf", "(II)I"⟩, prog_1_method_26_code, 2, (some .int), [], 7033)) (M := (2, (some .int), [], ev_b379)) [] rfl rfl rfl rfl (by decide +kernel) ev_k379 ev_cc379
set_option maxRecDepth 100000 in
theorem ev_m380 : ev_Mok 380 := ev_mk (N := (⟨"PathProver", "isTimed", "(I)Z"⟩, prog_1_method_27_code, 1, (some .boolean), [], 7060)) (M := (1, (some .boolean), [], ev_b380)) [] rfl rfl rfl rfl (by decide +kernel) ev_k380 ev_cc380
set_option maxRecDepth 100000 in
theorem ev_m381 : ev_Mok 381 := ev_mk (N := (⟨"PathProver", "fit", "([II)[I"⟩, prog_1_method_28_code, 2, (some (.array .int)), [], 7021)) (M := (2, (some (.array .int)), [], ev_b381)) [] rfl rfl rfl rfl (by decide +kernel) ev_k381 ev_cc381
set_option maxRecDepth 100000 in
theorem ev_m382 : ev_Mok 382 := ev_mk (N := (⟨"PathProver", "enter", "(I)I"⟩, prog_1_method_21_code, 2, (some .int), [], 12017)) (M := (2, (some .int), [], ev_b382)) [] rfl rfl rfl rfl (by decide +kernel) ev_k382 ev_cc382
set_option maxRecDepth 100000 in
theorem ev_m383 : ev_Mok 383 := ev_mk (N := (⟨"PathProver", "ready", "()V"⟩, prog_1_method_18_code, 2, none, [], 7162)) (M := (2, none, [], ev_b383)) [] rfl rfl rfl rfl (by decide +kernel) ev_k383 ev_cc383
set_option maxRecDepth 100000 in
theorem ev_m384 : ev_Mok 384 := ev_mk (N := (⟨"PathProver", "fitStates", "([III)[I"⟩, prog_1_method_29_code, 4, (some (.array .int)), [], 7112)) (M := (4, (some (.array .int)), [], ev_b384)) [] rfl rfl rfl rfl (by decide +kernel) ev_k384 ev_cc384
