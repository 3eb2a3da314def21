/-! Printed by wip/whole/gen8.py: further methods -/
set_option maxRecDepth 100000 in
theorem ev_m360 : ev_Mok 360 := ev_mk (N := (⟨"PathProver$Prover", "follower", "(I)I"⟩, prog_8_method_6_code, 2, (some .int), [], 12146)) (M := (2, (some .int), [], ev_b360)) [] rfl rfl rfl rfl (by decide +kernel) ev_k360 ev_cc360
set_option maxRecDepth 100000 in
theorem ev_m361 : ev_Mok 361 := ev_mk (N := (⟨"PathProver$Prover", "followers", "(I)I"⟩, prog_8_method_4_code, 2, (some .int), [], 12051)) (M := (2, (some .int), [], ev_b361)) [] rfl rfl rfl rfl (by decide +kernel) ev_k361 ev_cc361
set_option maxRecDepth 100000 in
theorem ev_m362 : ev_Mok 362 := ev_mk (N := (⟨"PathProver$Prover", "nth", "([JI)I"⟩, prog_8_method_7_code, 5, (some .int), [], 12130)) (M := (5, (some .int), [], ev_b362)) [] rfl rfl rfl rfl (by decide +kernel) ev_k362 ev_cc362
set_option maxRecDepth 100000 in
theorem ev_m363 : ev_Mok 363 := ev_mk (N := (⟨"PathProver$Prover", "initialState", "(I)I"⟩, prog_8_method_5_code, 2, (some .int), [], 12126)) (M := (2, (some .int), [], ev_b363)) [] rfl rfl rfl rfl (by decide +kernel) ev_k363 ev_cc363
set_option maxRecDepth 100000 in
theorem ev_m364 : ev_Mok 364 := ev_mk (N := (⟨"PathProver$Prover", "explore", "()V"⟩, prog_8_method_11_code, 1, none, [], 11030)) (M := (1, none, [], ev_b364)) [] rfl rfl rfl rfl (by decide +kernel) ev_k364 ev_cc364
set_option maxRecDepth 100000 in
theorem ev_m365 : ev_Mok 365 := ev_mk (N := (⟨"PathProver$Prover", "startToShow", "(I)I"⟩, prog_8_method_28_code, 4, (some .int), [], 12074)) (M := (4, (some .int), [], ev_b365)) [] rfl rfl rfl rfl (by decide +kernel) ev_k365 ev_cc365
set_option maxRecDepth 100000 in
theorem ev_m366 : ev_Mok 366 := ev_mk (N := (⟨"PathProver$Prover", "seekGoal", "(I)V"⟩, prog_8_method_29_code, 5, none, [], 12082)) (M := (5, none, [], ev_b366)) [] rfl rfl rfl rfl (by decide +kernel) ev_k366 ev_cc366
set_option maxRecDepth 100000 in
theorem ev_m367 : ev_Mok 367 := ev_mk (N := (⟨"PathProver$Prover", "seekWay", "(I)V"⟩, prog_8_method_30_code, 4, none, [], 12087)) (M := (4, none, [], ev_b367)) [] rfl rfl rfl rfl (by decide +kernel) ev_k367 ev_cc367
set_option maxRecDepth 100000 in
theorem ev_m368 : ev_Mok 368 := ev_mk (N := (⟨"PathProver$Prover", "seekPath", "(II)V"⟩, prog_8_method_32_code, 5, none, [], 12091)) (M := (5, none, [], ev_b368)) [] rfl rfl rfl rfl (by decide +kernel) ev_k368 ev_cc368
set_option maxRecDepth 100000 in
theorem ev_m369 : ev_Mok 369 := ev_mk (N := (⟨"PathProver$Prover", "display", "()I"⟩, prog_8_method_36_code, 1, (some .int), [], 12099)) (M := (1, (some .int), [], ev_b369)) [] rfl rfl rfl rfl (by decide +kernel) ev_k369 ev_cc369
set_option maxRecDepth 100000 in
theorem ev_m370 : ev_Mok 370 := ev_mk (N := (⟨"PathProver$Prover", "outerOf", "(I)I"⟩, prog_8_method_26_code, 3, (some .int), [], 12078)) (M := (3, (some .int), [], ev_b370)) [] rfl rfl rfl rfl (by decide +kernel) ev_k370 ev_cc370
set_option maxRecDepth 100000 in
theorem ev_m371 : ev_Mok 371 := ev_mk (N := (⟨"PathProver$Prover", "aim", "(I)V"⟩, prog_8_method_31_code, 9, none, [], 12095)) (M := (9, none, [], ev_b371)) [] rfl rfl rfl rfl (by decide +kernel) ev_k371 ev_cc371
set_option maxRecDepth 100000 in
theorem ev_m372 : ev_Mok 372 := ev_mk (N := (⟨"PathProver$Prover", "tally", "(II)I"⟩, prog_8_method_3_code, 6, (some .int), [], 12047)) (M := (6, (some .int), [], ev_b372)) [] rfl rfl rfl rfl (by decide +kernel) ev_k372 ev_cc372
set_option maxRecDepth 100000 in
theorem ev_m373 : ev_Mok 373 := ev_mk (N := (⟨"PathProver$Prover", "holdsAtStart", "(I)Z"⟩, prog_8_method_10_code, 4, (some .boolean), [], 12036)) (M := (4, (some .boolean), [], ev_b373)) [] rfl rfl rfl rfl (by decide +kernel) ev_k373 ev_cc373
set_option maxRecDepth 100000 in
theorem ev_m374 : ev_Mok 374 := ev_mk (N := (⟨"PathProver$Prover", "begin", "()V"⟩, prog_8_method_2_code, 1, none, [], 7137)) (M := (1, none, [], ev_b374)) [] rfl rfl rfl rfl (by decide +kernel) ev_k374 ev_cc374
set_option maxRecDepth 100000 in
theorem ev_m375 : ev_Mok 375 := ev_mk (N := (⟨"PathProver", "needCurrent", "()V"⟩, prog_1_method_25_code, 1, none, [], 12141)) (M := (1, none, [], ev_b375)) [] rfl rfl rfl rfl (by decide +kernel) ev_k375 ev_cc375
set_option maxRecDepth 100000 in
theorem ev_m376 : ev_Mok 376 := ev_mk (N := (⟨"PathProver", "drive", "()V"⟩, prog_1_method_20_code, 2, none, [], 11053)) (M := (2, none, [], ev_b376)) [] rfl rfl rfl rfl (by decide +kernel) ev_k376 ev_cc376
set_option maxRecDepth 100000 in
theorem ev_m377 : ev_Mok 377 := ev_mk (N := (⟨"PathProver", "has", "([JI)Z"⟩, prog_1_method_30_code, 2, (some .boolean), [], 10116)) (M := (2, (some .boolean), [], ev_b377)) [] rfl rfl rfl rfl (by decide +kernel) ev_k377 ev_cc377
set_option maxRecDepth 100000 in
theorem ev_m378 : ev_Mok 378 := ev_mk (N := (⟨"PathProver", "makeRow", "(I)V"⟩, prog_1_method_19_code, 3, none, [], 10120)) (M := (3, none, [], ev_b378)) [] rfl rfl rfl rfl (by decide +kernel) ev_k378 ev_cc378
set_option maxRecDepth 100000 in
theorem ev_m379 : ev_Mok 379 := ev_mk (N := (⟨"PathProver", "partsOf", "(II)I"⟩, prog_1_method_26_code, 2, (some .int), [], 7044)) (M := (2, (some .int), [], ev_b379)) [] rfl rfl rfl rfl (by decide +kernel) ev_k379 ev_cc379
set_option maxRecDepth 100000 in
theorem ev_m380 : ev_Mok 380 := ev_mk (N := (⟨"PathProver", "isTimed", "(I)Z"⟩, prog_1_method_27_code, 1, (some .boolean), [], 7071)) (M := (1, (some .boolean), [], ev_b380)) [] rfl rfl rfl rfl (by decide +kernel) ev_k380 ev_cc380
set_option maxRecDepth 100000 in
theorem ev_m381 : ev_Mok 381 := ev_mk (N := (⟨"PathProver", "fit", "([II)[I"⟩, prog_1_method_28_code, 2, (some (.array .int)), [], 7032)) (M := (2, (some (.array .int)), [], ev_b381)) [] rfl rfl rfl rfl (by decide +kernel) ev_k381 ev_cc381
set_option maxRecDepth 100000 in
theorem ev_m382 : ev_Mok 382 := ev_mk (N := (⟨"PathProver", "enter", "(I)I"⟩, prog_1_method_21_code, 2, (some .int), [], 12114)) (M := (2, (some .int), [], ev_b382)) [] rfl rfl rfl rfl (by decide +kernel) ev_k382 ev_cc382
set_option maxRecDepth 100000 in
theorem ev_m383 : ev_Mok 383 := ev_mk (N := (⟨"PathProver", "ready", "()V"⟩, prog_1_method_18_code, 2, none, [], 7173)) (M := (2, none, [], ev_b383)) [] rfl rfl rfl rfl (by decide +kernel) ev_k383 ev_cc383
set_option maxRecDepth 100000 in
theorem ev_m384 : ev_Mok 384 := ev_mk (N := (⟨"PathProver", "fitStates", "([III)[I"⟩, prog_1_method_29_code, 4, (some (.array .int)), [], 7123)) (M := (4, (some (.array .int)), [], ev_b384)) [] rfl rfl rfl rfl (by decide +kernel) ev_k384 ev_cc384
set_option maxRecDepth 100000 in
theorem ev_m385 : ev_Mok 385 := ev_mk (N := (⟨"PathProver$Model", "isAlike", "(IIII)Z"⟩, prog_6_method_15_code, 10, (some .boolean), [], 10030)) (M := (10, (some .boolean), [], ev_b385)) [] rfl rfl rfl rfl (by decide +kernel) ev_k385 ev_cc385
set_option maxRecDepth 100000 in
theorem ev_m386 : ev_Mok 386 := ev_mk (N := (⟨"PathProver$Relation", "factorOf", "(II)I"⟩, prog_9_method_7_code, 4, (some .int), [], 9175)) (M := (4, (some .int), [], ev_b386)) [] rfl rfl rfl rfl (by decide +kernel) ev_k386 ev_cc386
set_option maxRecDepth 100000 in
theorem ev_m387 : ev_Mok 387 := ev_mk (N := (⟨"PathProver$Relation", "write", "(IZ)V"⟩, prog_9_method_10_code, 5, none, [], 9223)) (M := (5, none, [], ev_b387)) [] rfl rfl rfl rfl (by decide +kernel) ev_k387 ev_cc387
set_option maxRecDepth 100000 in
theorem ev_m388 : ev_Mok 388 := ev_mk (N := (⟨"PathProver$Relation", "firstNext", "(II)I"⟩, prog_9_method_17_code, 4, (some .int), [], 10039)) (M := (4, (some .int), [], ev_b388)) [] rfl rfl rfl rfl (by decide +kernel) ev_k388 ev_cc388
set_option maxRecDepth 100000 in
theorem ev_m389 : ev_Mok 389 := ev_mk (N := (⟨"PathProver$Relation", "isThere", "(III)Z"⟩, prog_9_method_18_code, 6, (some .boolean), [], 10043)) (M := (6, (some .boolean), [], ev_b389)) [] rfl rfl rfl rfl (by decide +kernel) ev_k389 ev_cc389
set_option maxRecDepth 100000 in
theorem ev_m390 : ev_Mok 390 := ev_mk (N := (⟨"PathProver$Relation", "isFirstOr", "(I)Z"⟩, prog_9_method_22_code, 2, (some .boolean), [], 10070)) (M := (2, (some .boolean), [], ev_b390)) [] rfl rfl rfl rfl (by decide +kernel) ev_k390 ev_cc390
set_option maxRecDepth 100000 in
theorem ev_m391 : ev_Mok 391 := ev_mk (N := (⟨"PathProver$Relation", "mostSteps", "()I"⟩, prog_9_method_23_code, 3, (some .int), [], 10061)) (M := (3, (some .int), [], ev_b391)) [] rfl rfl rfl rfl (by decide +kernel) ev_k391 ev_cc391
set_option maxRecDepth 100000 in
theorem ev_m392 : ev_Mok 392 := ev_mk (N := (⟨"PathProver$Relation", "levelOf", "(I)I"⟩, prog_9_method_24_code, 1, (some .int), [], 9194)) (M := (1, (some .int), [], ev_b392)) [] rfl rfl rfl rfl (by decide +kernel) ev_k392 ev_cc392
set_option maxRecDepth 100000 in
theorem ev_m393 : ev_Mok 393 := ev_mk (N := (⟨"PathProver$Relation", "isOne", "(I)Z"⟩, prog_9_method_25_code, 1, (some .boolean), [], 10064)) (M := (1, (some .boolean), [], ev_b393)) [] rfl rfl rfl rfl (by decide +kernel) ev_k393 ev_cc393
set_option maxRecDepth 100000 in
theorem ev_m394 : ev_Mok 394 := ev_mk (N := (⟨"PathProver$Relation", "openBranch", "()Z"⟩, prog_9_method_27_code, 8, (some .boolean), [], 10012)) (M := (8, (some .boolean), [], ev_b394)) [] rfl rfl rfl rfl (by decide +kernel) ev_k394 ev_cc394
set_option maxRecDepth 100000 in
theorem ev_m395 : ev_Mok 395 := ev_mk (N := (⟨"PathProver$Relation", "isBranch", "(III)Z"⟩, prog_9_method_28_code, 6, (some .boolean), [], 10026)) (M := (6, (some .boolean), [], ev_b395)) [] rfl rfl rfl rfl (by decide +kernel) ev_k395 ev_cc395
set_option maxRecDepth 100000 in
theorem ev_m396 : ev_Mok 396 := ev_mk (N := (⟨"PathProver$Relation", "longestOr", "()I"⟩, prog_9_method_29_code, 6, (some .int), [], 10016)) (M := (6, (some .int), [], ev_b396)) [] rfl rfl rfl rfl (by decide +kernel) ev_k396 ev_cc396
set_option maxRecDepth 100000 in
theorem ev_m397 : ev_Mok 397 := ev_mk (N := (⟨"PathProver$Relation", "weighBranches", "()V"⟩, prog_9_method_30_code, 5, none, [], 10079)) (M := (5, none, [], ev_b397)) [] rfl rfl rfl rfl (by decide +kernel) ev_k397 ev_cc397
set_option maxRecDepth 100000 in
theorem ev_m398 : ev_Mok 398 := ev_mk (N := (⟨"PathProver$Relation", "firstBranch", "()I"⟩, prog_9_method_43_code, 1, (some .int), [], 10128)) (M := (1, (some .int), [], ev_b398)) [] rfl rfl rfl rfl (by decide +kernel) ev_k398 ev_cc398
set_option maxRecDepth 100000 in
theorem ev_m399 : ev_Mok 399 := ev_mk (N := (⟨"PathProver$Relation", "commonEnd", "(I)I"⟩, prog_9_method_44_code, 2, (some .int), [], 10145)) (M := (2, (some .int), [], ev_b399)) [] rfl rfl rfl rfl (by decide +kernel) ev_k399 ev_cc399
set_option maxRecDepth 100000 in
theorem ev_m400 : ev_Mok 400 := ev_mk (N := (⟨"PathProver$Relation", "branchEnd", "(I)I"⟩, prog_9_method_45_code, 2, (some .int), [], 10153)) (M := (2, (some .int), [], ev_b400)) [] rfl rfl rfl rfl (by decide +kernel) ev_k400 ev_cc400
set_option maxRecDepth 100000 in
theorem ev_m401 : ev_Mok 401 := ev_mk (N := (⟨"PathProver$Relation", "ownRows", "(I)I"⟩, prog_9_method_46_code, 2, (some .int), [], 10149)) (M := (2, (some .int), [], ev_b401)) [] rfl rfl rfl rfl (by decide +kernel) ev_k401 ev_cc401
set_option maxRecDepth 100000 in
theorem ev_m402 : ev_Mok 402 := ev_mk (N := (⟨"PathProver$Relation", "beginRow", "()V"⟩, prog_9_method_47_code, 1, none, [], 10124)) (M := (1, none, [], ev_b402)) [] rfl rfl rfl rfl (by decide +kernel) ev_k402 ev_cc402
set_option maxRecDepth 100000 in
theorem ev_m403 : ev_Mok 403 := ev_mk (N := (⟨"PathProver$Relation", "listTruths", "()V"⟩, prog_9_method_51_code, 3, none, [], 10196)) (M := (3, none, [], ev_b403)) [] rfl rfl rfl rfl (by decide +kernel) ev_k403 ev_cc403
set_option maxRecDepth 100000 in
theorem ev_m404 : ev_Mok 404 := ev_mk (N := (⟨"PathProver$Relation", "gather", "()V"⟩, prog_9_method_58_code, 2, none, [], 11001)) (M := (2, none, [], ev_b404)) [] rfl rfl rfl rfl (by decide +kernel) ev_k404 ev_cc404
set_option maxRecDepth 100000 in
theorem ev_m405 : ev_Mok 405 := ev_mk (N := (⟨"PathProver$Relation", "endRow", "()V"⟩, prog_9_method_59_code, 1, none, [], 11005)) (M := (1, none, [], ev_b405)) [] rfl rfl rfl rfl (by decide +kernel) ev_k405 ev_cc405
set_option maxRecDepth 100000 in
theorem ev_m406 : ev_Mok 406 := ev_mk (N := (⟨"PathProverModel", "row", "()LPathProverModel$Bits;"⟩, prog_15_method_92_code, 3, (some (.object "PathProverModel$Bits")), [], 16095)) (M := (3, (some (.object "PathProverModel$Bits")), [], ev_b406)) [] rfl rfl rfl rfl (by decide +kernel) ev_k406 ev_cc406
set_option maxRecDepth 100000 in
theorem ev_m407 : ev_Mok 407 := ev_mk (N := (⟨"PathProverModel", "spec", "(ILPathProverModel$Bits;)V"⟩, prog_15_method_106_code, 3, none, [], 16151)) (M := (3, none, [], ev_b407)) [] rfl rfl rfl rfl (by decide +kernel) ev_k407 ev_cc407
set_option maxRecDepth 100000 in
theorem ev_m408 : ev_Mok 408 := ev_mk (N := (⟨"PathProverModel", "formula", "(LPathProverModel$Node;LPathProverModel$Instance;LPathProverModel$Bits;)V"⟩, prog_15_method_101_code, 6, none, [], 16155)) (M := (6, none, [], ev_b408)) [] rfl rfl rfl rfl (by decide +kernel) ev_k408 ev_cc408
set_option maxRecDepth 100000 in
theorem ev_m409 : ev_Mok 409 := ev_mk (N := (⟨"PathProverModel", "paths", "(LPathProverModel$Node;LPathProverModel$Instance;)Z"⟩, prog_15_method_100_code, 5, (some .boolean), [], 16159)) (M := (5, (some .boolean), [], ev_b409)) [] rfl rfl rfl rfl (by decide +kernel) ev_k409 ev_cc409
set_option maxRecDepth 100000 in
theorem ev_m410 : ev_Mok 410 := ev_mk (N := (⟨"PathProverModel", "enter", "(I)V"⟩, prog_15_method_80_code, 2, none, [], 16031)) (M := (2, none, [], ev_b410)) [] rfl rfl rfl rfl (by decide +kernel) ev_k410 ev_cc410
set_option maxRecDepth 100000 in
theorem ev_m411 : ev_Mok 411 := ev_mk (N := (⟨"PathProverModel", "value", "(LPathProverModel$Node;LPathProverModel$Instance;)I"⟩, prog_15_method_75_code, 6, (some .int), [], 16043)) (M := (6, (some .int), [], ev_b411)) [] rfl rfl rfl rfl (by decide +kernel) ev_k411 ev_cc411
set_option maxRecDepth 100000 in
theorem ev_m412 : ev_Mok 412 := ev_mk (N := (⟨"PathProverModel", "copy", "(LPathProverModel$Bits;LPathProverModel$Bits;)V"⟩, prog_15_method_102_code, 4, none, [], 16163)) (M := (4, none, [], ev_b412)) [] rfl rfl rfl rfl (by decide +kernel) ev_k412 ev_cc412
set_option maxRecDepth 100000 in
theorem ev_m413 : ev_Mok 413 := ev_mk (N := (⟨"PathProverModel", "deny", "(LPathProverModel$Bits;)V"⟩, prog_15_method_99_code, 3, none, [], 16167)) (M := (3, none, [], ev_b413)) [] rfl rfl rfl rfl (by decide +kernel) ev_k413 ev_cc413
set_option maxRecDepth 100000 in
theorem ev_m414 : ev_Mok 414 := ev_mk (N := (⟨"PathProverModel", "before", "(LPathProverModel$Bits;LPathProverModel$Bits;)V"⟩, prog_15_method_103_code, 5, none, [], 16171)) (M := (5, none, [], ev_b414)) [] rfl rfl rfl rfl (by decide +kernel) ev_k414 ev_cc414
set_option maxRecDepth 100000 in
theorem ev_m415 : ev_Mok 415 := ev_mk (N := (⟨"PathProverModel", "until", "(LPathProverModel$Bits;LPathProverModel$Bits;LPathProverModel$Bits;)V"⟩, prog_15_method_98_code, 5, none, [], 16175)) (M := (5, none, [], ev_b415)) [] rfl rfl rfl rfl (by decide +kernel) ev_k415 ev_cc415
set_option maxRecDepth 100000 in
theorem ev_m416 : ev_Mok 416 := ev_mk (N := (⟨"PathProverModel", "always", "(LPathProverModel$Bits;LPathProverModel$Bits;)V"⟩, prog_15_method_97_code, 7, none, [], 16099)) (M := (7, none, [], ev_b416)) [] rfl rfl rfl rfl (by decide +kernel) ev_k416 ev_cc416
set_option maxRecDepth 100000 in
theorem ev_m417 : ev_Mok 417 := ev_mk (N := (⟨"PathProverModel", "untils", "(LPathProverModel$Node;LPathProverModel$Instance;LPathProverModel$Bits;LPathProverModel$Bits;)V"⟩, prog_15_method_104_code, 9, none, [], 16179)) (M := (9, none, [], ev_b417)) [] rfl rfl rfl rfl (by decide +kernel) ev_k417 ev_cc417
set_option maxRecDepth 100000 in
theorem ev_m418 : ev_Mok 418 := ev_mk (N := (⟨"PathProverModel", "joined", "(LPathProverModel$Node;LPathProverModel$Instance;LPathProverModel$Bits;LPathProverModel$Bits;)V"⟩, prog_15_method_105_code, 12, none, [], 16183)) (M := (12, none, [], ev_b418)) [] rfl rfl rfl rfl (by decide +kernel) ev_k418 ev_cc418
set_option maxRecDepth 100000 in
theorem ev_m419 : ev_Mok 419 := ev_mk (N := (⟨"PathProverModel", "fairs", "()I"⟩, prog_15_method_95_code, 1, (some .int), [], 16103)) (M := (1, (some .int), [], ev_b419)) [] rfl rfl rfl rfl (by decide +kernel) ev_k419 ev_cc419
