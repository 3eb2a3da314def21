/-! Printed by wip/whole/gen8.py: further methods -/
set_option maxRecDepth 100000 in
theorem ev_m420 : ev_Mok 420 := ev_mk (N := (⟨"PathProverModel", "fairAt", "(II)Z"⟩, prog_15_method_96_code, 3, (some .boolean), [], 16107)) (M := (3, (some .boolean), [], ev_b420)) [] rfl rfl rfl rfl (by decide +kernel) ev_k420 ev_cc420
set_option maxRecDepth 100000 in
theorem ev_m421 : ev_Mok 421 := ev_mk (N := (⟨"PathProverModel", "grow", "(LPathProverModel$Bits;LPathProverModel$Bits;)V"⟩, prog_15_method_94_code, 5, none, [], 16111)) (M := (5, none, [], ev_b421)) [] rfl rfl rfl rfl (by decide +kernel) ev_k421 ev_cc421
set_option maxRecDepth 100000 in
theorem ev_m422 : ev_Mok 422 := ev_mk (N := (⟨"PathProverModel", "leads", "(ILPathProverModel$Bits;)Z"⟩, prog_15_method_93_code, 4, (some .boolean), [], 16115)) (M := (4, (some .boolean), [], ev_b422)) [] rfl rfl rfl rfl (by decide +kernel) ev_k422 ev_cc422
set_option maxRecDepth 100000 in
theorem ev_m423 : ev_Mok 423 := ev_mk (N := (⟨"PathProverModel", "begin", "(I)V"⟩, prog_15_method_87_code, 2, none, [], 16119)) (M := (2, none, [], ev_b423)) [] rfl rfl rfl rfl (by decide +kernel) ev_k423 ev_cc423
set_option maxRecDepth 100000 in
theorem ev_m424 : ev_Mok 424 := ev_mk (N := (⟨"PathProverModel", "next", "()I"⟩, prog_15_method_88_code, 2, (some .int), [], 16123)) (M := (2, (some .int), [], ev_b424)) [] rfl rfl rfl rfl (by decide +kernel) ev_k424 ev_cc424
set_option maxRecDepth 100000 in
theorem ev_m425 : ev_Mok 425 := ev_mk (N := (⟨"PathProverModel", "tried", "(I)I"⟩, prog_15_method_85_code, 3, (some .int), [], 16083)) (M := (3, (some .int), [], ev_b425)) [] rfl rfl rfl rfl (by decide +kernel) ev_k425 ev_cc425
set_option maxRecDepth 100000 in
theorem ev_m426 : ev_Mok 426 := ev_mk (N := (⟨"PathProverModel", "candidate", "(I)I"⟩, prog_15_method_84_code, 7, (some .int), [], 16087)) (M := (7, (some .int), [], ev_b426)) [] rfl rfl rfl rfl (by decide +kernel) ev_k426 ev_cc426
set_option maxRecDepth 100000 in
theorem ev_m427 : ev_Mok 427 := ev_mk (N := (⟨"PathProverModel", "decode", "(I[I)V"⟩, prog_15_method_72_code, 5, none, [], 16035)) (M := (5, none, [], ev_b427)) [] rfl rfl rfl rfl (by decide +kernel) ev_k427 ev_cc427
set_option maxRecDepth 100000 in
theorem ev_m428 : ev_Mok 428 := ev_mk (N := (⟨"PathProverModel", "transitions", "()Z"⟩, prog_15_method_82_code, 5, (some .boolean), [], 16091)) (M := (5, (some .boolean), [], ev_b428)) [] rfl rfl rfl rfl (by decide +kernel) ev_k428 ev_cc428
set_option maxRecDepth 100000 in
theorem ev_m429 : ev_Mok 429 := ev_mk (N := (⟨"PathProverModel", "howMany", "(LPathProverModel$Node;)I"⟩, prog_15_method_69_code, 2, (some .int), [], 16015)) (M := (2, (some .int), [], ev_b429)) [] rfl rfl rfl rfl (by decide +kernel) ev_k429 ev_cc429
set_option maxRecDepth 100000 in
theorem ev_m430 : ev_Mok 430 := ev_mk (N := (⟨"PathProverModel", "mark", "()V"⟩, prog_15_method_83_code, 7, none, [], 16079)) (M := (7, none, [], ev_b430)) [] rfl rfl rfl rfl (by decide +kernel) ev_k430 ev_cc430
set_option maxRecDepth 100000 in
theorem ev_m431 : ev_Mok 431 := ev_mk (N := (⟨"PathProverModel", "find", "(LPathProverModel$Module;Ljava/lang/String;Ljava/lang/String;)I"⟩, prog_15_method_38_code, 4, (some .int), [], 15118)) (M := (4, (some .int), [], ev_b431)) [] rfl rfl rfl rfl (by decide +kernel) ev_k431 ev_cc431
set_option maxRecDepth 100000 in
theorem ev_m432 : ev_Mok 432 := ev_mk (N := (⟨"PathProverModel", "valueAt", "(II)I"⟩, prog_15_method_71_code, 4, (some .int), [], 16047)) (M := (4, (some .int), [], ev_b432)) [] rfl rfl rfl rfl (by decide +kernel) ev_k432 ev_cc432
set_option maxRecDepth 100000 in
theorem ev_m433 : ev_Mok 433 := ev_mk (N := (⟨"PathProverModel", "chosen", "(LPathProverModel$Node;LPathProverModel$Instance;I)Z"⟩, prog_15_method_79_code, 5, (some .boolean), [], 16070)) (M := (5, (some .boolean), [], ev_b433)) [] rfl rfl rfl rfl (by decide +kernel) ev_k433 ev_cc433
set_option maxRecDepth 100000 in
theorem ev_m434 : ev_Mok 434 := ev_mk (N := (⟨"PathProverModel", "find", "(LPathProverModel$Instance;[Ljava/lang/String;)V"⟩, prog_15_method_52_code, 8, none, [], 15193)) (M := (8, none, [], ev_b434)) [] rfl rfl rfl rfl (by decide +kernel) ev_k434 ev_cc434
set_option maxRecDepth 100000 in
theorem ev_m435 : ev_Mok 435 := ev_mk (N := (⟨"PathProverModel", "standing", "(I)I"⟩, prog_15_method_76_code, 3, (some .int), [], 16051)) (M := (3, (some .int), [], ev_b435)) [] rfl rfl rfl rfl (by decide +kernel) ev_k435 ev_cc435
set_option maxRecDepth 100000 in
theorem ev_m436 : ev_Mok 436 := ev_mk (N := (⟨"PathProverModel", "variableOf", "([Ljava/lang/String;LPathProverModel$Instance;)I"⟩, prog_15_method_63_code, 3, (some .int), [], 15231)) (M := (3, (some .int), [], ev_b436)) [] rfl rfl rfl rfl (by decide +kernel) ev_k436 ev_cc436
set_option maxRecDepth 100000 in
theorem ev_m437 : ev_Mok 437 := ev_mk (N := (⟨"PathProverModel", "wrap", "(I)I"⟩, prog_15_method_73_code, 1, (some .int), [], 16054)) (M := (1, (some .int), [], ev_b437)) [] rfl rfl rfl rfl (by decide +kernel) ev_k437 ev_cc437
set_option maxRecDepth 100000 in
theorem ev_m438 : ev_Mok 438 := ev_mk (N := (⟨"PathProverModel", "truth", "(Z)I"⟩, prog_15_method_74_code, 2, (some .int), [], 16058)) (M := (2, (some .int), [], ev_b438)) [] rfl rfl rfl rfl (by decide +kernel) ev_k438 ev_cc438
set_option maxRecDepth 100000 in
theorem ev_m439 : ev_Mok 439 := ev_mk (N := (⟨"PathProverModel", "chainValue", "(LPathProverModel$Node;LPathProverModel$Instance;)I"⟩, prog_15_method_77_code, 6, (some .int), [], 16062)) (M := (6, (some .int), [], ev_b439)) [] rfl rfl rfl rfl (by decide +kernel) ev_k439 ev_cc439
set_option maxRecDepth 100000 in
theorem ev_m440 : ev_Mok 440 := ev_mk (N := (⟨"PathProverModel", "compared", "(LPathProverModel$Node;LPathProverModel$Instance;)I"⟩, prog_15_method_78_code, 5, (some .int), [], 16066)) (M := (5, (some .int), [], ev_b440)) [] rfl rfl rfl rfl (by decide +kernel) ev_k440 ev_cc440
set_option maxRecDepth 100000 in
theorem ev_m441 : ev_Mok 441 := ev_mk (N := (⟨"PathProverModel", "sound", "(Z)V"⟩, prog_15_method_39_code, 2, none, [], 15093)) (M := (2, none, [], ev_b441)) [] rfl rfl rfl rfl (by decide +kernel) ev_k441 ev_cc441
set_option maxRecDepth 100000 in
theorem ev_m442 : ev_Mok 442 := ev_mk (N := (⟨"PathProverModel", "symbol", "(Ljava/lang/String;)I"⟩, prog_15_method_31_code, 3, (some .int), [], 15000)) (M := (3, (some .int), [], ev_b442)) [] rfl rfl rfl rfl (by decide +kernel) ev_k442 ev_cc442
set_option maxRecDepth 100000 in
theorem ev_m443 : ev_Mok 443 := ev_mk (N := (⟨"PathProverModel", "temporal", "(LPathProverModel$Node;)Z"⟩, prog_15_method_62_code, 2, (some .boolean), [], 15235)) (M := (2, (some .boolean), [], ev_b443)) [] rfl rfl rfl rfl (by decide +kernel) ev_k443 ev_cc443
set_option maxRecDepth 100000 in
theorem ev_m444 : ev_Mok 444 := ev_mk (N := (⟨"PathProverModel", "go", "(I)I"⟩, prog_15_method_125_code, 2, (some .int), [], 17007)) (M := (2, (some .int), [], ev_b444)) [] rfl rfl rfl rfl (by decide +kernel) ev_k444 ev_cc444
set_option maxRecDepth 100000 in
theorem ev_m445 : ev_Mok 445 := ev_mk (N := (⟨"PathProverModel", "degree", "(I)I"⟩, prog_15_method_89_code, 3, (some .int), [], 16191)) (M := (3, (some .int), [], ev_b445)) [] rfl rfl rfl rfl (by decide +kernel) ev_k445 ev_cc445
set_option maxRecDepth 100000 in
theorem ev_m446 : ev_Mok 446 := ev_mk (N := (⟨"PathProverModel", "showPath", "(LPathProverModel$Node;LPathProverModel$Instance;)Z"⟩, prog_15_method_121_code, 10, (some .boolean), [], 16203)) (M := (10, (some .boolean), [], ev_b446)) [] rfl rfl rfl rfl (by decide +kernel) ev_k446 ev_cc446
set_option maxRecDepth 100000 in
theorem ev_m447 : ev_Mok 447 := ev_mk (N := (⟨"PathProverModel", "showLoop", "(LPathProverModel$Node;LPathProverModel$Instance;)Z"⟩, prog_15_method_122_code, 10, (some .boolean), [], 16231)) (M := (10, (some .boolean), [], ev_b447)) [] rfl rfl rfl rfl (by decide +kernel) ev_k447 ev_cc447
set_option maxRecDepth 100000 in
theorem ev_m448 : ev_Mok 448 := ev_mk (N := (⟨"PathProverModel", "firstOf", "(LPathProverModel$Bits;)I"⟩, prog_15_method_119_code, 3, (some .int), [], 16207)) (M := (3, (some .int), [], ev_b448)) [] rfl rfl rfl rfl (by decide +kernel) ev_k448 ev_cc448
set_option maxRecDepth 100000 in
theorem ev_m449 : ev_Mok 449 := ev_mk (N := (⟨"PathProverModel", "tell", "(I)V"⟩, prog_15_method_114_code, 2, none, [], 16219)) (M := (2, none, [], ev_b449)) [] rfl rfl rfl rfl (by decide +kernel) ev_k449 ev_cc449
set_option maxRecDepth 100000 in
theorem ev_m450 : ev_Mok 450 := ev_mk (N := (⟨"PathProverModel", "walk", "(ILPathProverModel$Bits;LPathProverModel$Bits;)I"⟩, prog_15_method_124_code, 5, (some .int), [], 16235)) (M := (5, (some .int), [], ev_b450)) [] rfl rfl rfl rfl (by decide +kernel) ev_k450 ev_cc450
set_option maxRecDepth 100000 in
theorem ev_m451 : ev_Mok 451 := ev_mk (N := (⟨"PathProverModel", "measure", "(LPathProverModel$Bits;LPathProverModel$Bits;)V"⟩, prog_15_method_115_code, 6, none, [], 16211)) (M := (6, none, [], ev_b451)) [] rfl rfl rfl rfl (by decide +kernel) ev_k451 ev_cc451
set_option maxRecDepth 100000 in
theorem ev_m452 : ev_Mok 452 := ev_mk (N := (⟨"PathProverModel", "nearest", "(ILPathProverModel$Bits;)I"⟩, prog_15_method_116_code, 6, (some .int), [], 16215)) (M := (6, (some .int), [], ev_b452)) [] rfl rfl rfl rfl (by decide +kernel) ev_k452 ev_cc452
set_option maxRecDepth 100000 in
theorem ev_m453 : ev_Mok 453 := ev_mk (N := (⟨"PathProverModel", "pathSizeBack", "(I)V"⟩, prog_15_method_123_code, 2, none, [], 16239)) (M := (2, none, [], ev_b453)) [] rfl rfl rfl rfl (by decide +kernel) ev_k453 ev_cc453
set_option maxRecDepth 100000 in
theorem ev_m454 : ev_Mok 454 := ev_mk (N := (⟨"PathProverModel", "step", "(IILPathProverModel$Bits;)I"⟩, prog_15_method_117_code, 5, (some .int), [], 16223)) (M := (5, (some .int), [], ev_b454)) [] rfl rfl rfl rfl (by decide +kernel) ev_k454 ev_cc454
set_option maxRecDepth 100000 in
theorem ev_m455 : ev_Mok 455 := ev_mk (N := (⟨"PathProverModel", "follow", "(I)I"⟩, prog_15_method_118_code, 3, (some .int), [], 16227)) (M := (3, (some .int), [], ev_b455)) [] rfl rfl rfl rfl (by decide +kernel) ev_k455 ev_cc455
set_option maxRecDepth 100000 in
theorem ev_m456 : ev_Mok 456 := ev_mk (N := (⟨"PathProverModel", "soundTexts", "()V"⟩, prog_15_method_49_code, 3, none, [], 15089)) (M := (3, none, [], ev_b456)) [] rfl rfl rfl rfl (by decide +kernel) ev_k456 ev_cc456
set_option maxRecDepth 100000 in
theorem ev_m457 : ev_Mok 457 := ev_mk (N := (⟨"PathProverModel", "text", "(Ljava/lang/String;)LPathProverModel$Module;"⟩, prog_15_method_43_code, 3, (some (.object "PathProverModel$Module")), [], 15111)) (M := (3, (some (.object "PathProverModel$Module")), [], ev_b457)) [] rfl rfl rfl rfl (by decide +kernel) ev_k457 ev_cc457
set_option maxRecDepth 100000 in
theorem ev_m458 : ev_Mok 458 := ev_mk (N := (⟨"PathProverModel", "instance", "(LPathProverModel$Module;LPathProverModel$Instance;LPathProverModel$Node;)LPathProverModel$Instance;"⟩, prog_15_method_51_code, 7, (some (.object "PathProverModel$Instance")), [], 15127)) (M := (7, (some (.object "PathProverModel$Instance")), [], ev_b458)) [] rfl rfl rfl rfl (by decide +kernel) ev_k458 ev_cc458
set_option maxRecDepth 100000 in
theorem ev_m459 : ev_Mok 459 := ev_mk (N := (⟨"PathProverModel", "allNames", "()V"⟩, prog_15_method_57_code, 5, none, [], 15177)) (M := (5, none, [], ev_b459)) [] rfl rfl rfl rfl (by decide +kernel) ev_k459 ev_cc459
set_option maxRecDepth 100000 in
theorem ev_m460 : ev_Mok 460 := ev_mk (N := (⟨"PathProverModel", "allHeights", "()V"⟩, prog_15_method_60_code, 5, none, [], 15206)) (M := (5, none, [], ev_b460)) [] rfl rfl rfl rfl (by decide +kernel) ev_k460 ev_cc460
set_option maxRecDepth 100000 in
theorem ev_m461 : ev_Mok 461 := ev_mk (N := (⟨"PathProverModel", "allSorts", "()V"⟩, prog_15_method_68_code, 5, none, [], 15219)) (M := (5, none, [], ev_b461)) [] rfl rfl rfl rfl (by decide +kernel) ev_k461 ev_cc461
set_option maxRecDepth 100000 in
theorem ev_m462 : ev_Mok 462 := ev_mk (N := (⟨"PathProverModel", "allValues", "()V"⟩, prog_15_method_70_code, 4, none, [], 16011)) (M := (4, none, [], ev_b462)) [] rfl rfl rfl rfl (by decide +kernel) ev_k462 ev_cc462
set_option maxRecDepth 100000 in
theorem ev_m463 : ev_Mok 463 := ev_mk (N := (⟨"PathProverModel", "build", "()V"⟩, prog_15_method_90_code, 5, none, [], 16019)) (M := (5, none, [], ev_b463)) [] rfl rfl rfl rfl (by decide +kernel) ev_k463 ev_cc463
set_option maxRecDepth 100000 in
theorem ev_m464 : ev_Mok 464 := ev_mk (N := (⟨"PathProverModel", "all", "(Ljava/lang/String;Ljava/lang/String;)Z"⟩, prog_15_method_81_code, 8, (some .boolean), [], 16039)) (M := (8, (some .boolean), [], ev_b464)) [] rfl rfl rfl rfl (by decide +kernel) ev_k464 ev_cc464
set_option maxRecDepth 100000 in
theorem ev_m465 : ev_Mok 465 := ev_mk (N := (⟨"PathProverModel", "goes", "()V"⟩, prog_15_method_86_code, 4, none, [], 16075)) (M := (4, none, [], ev_b465)) [] rfl rfl rfl rfl (by decide +kernel) ev_k465 ev_cc465
set_option maxRecDepth 100000 in
theorem ev_m466 : ev_Mok 466 := ev_mk (N := (⟨"PathProverModel", "small", "(Z)V"⟩, prog_15_method_40_code, 2, none, [], 15131)) (M := (2, none, [], ev_b466)) [] rfl rfl rfl rfl (by decide +kernel) ev_k466 ev_cc466
set_option maxRecDepth 100000 in
theorem ev_m467 : ev_Mok 467 := ev_mk (N := (⟨"PathProverModel", "sort", "(LPathProverModel$Node;LPathProverModel$Instance;IZ)I"⟩, prog_15_method_64_code, 10, (some .int), [], 15223)) (M := (10, (some .int), [], ev_b467)) [] rfl rfl rfl rfl (by decide +kernel) ev_k467 ev_cc467
set_option maxRecDepth 100000 in
theorem ev_m468 : ev_Mok 468 := ev_mk (N := (⟨"PathProverModel", "assigns", "(LPathProverModel$Node;)Z"⟩, prog_15_method_46_code, 2, (some .boolean), [], 15115)) (M := (2, (some .boolean), [], ev_b468)) [] rfl rfl rfl rfl (by decide +kernel) ev_k468 ev_cc468
set_option maxRecDepth 100000 in
theorem ev_m469 : ev_Mok 469 := ev_mk (N := (⟨"PathProverModel", "sortOf", "(I)I"⟩, prog_15_method_61_code, 3, (some .int), [], 15227)) (M := (3, (some .int), [], ev_b469)) [] rfl rfl rfl rfl (by decide +kernel) ev_k469 ev_cc469
set_option maxRecDepth 100000 in
theorem ev_m470 : ev_Mok 470 := ev_mk (N := (⟨"PathProverModel", "choiceSort", "(LPathProverModel$Node;LPathProverModel$Instance;I)V"⟩, prog_15_method_67_code, 5, none, [], 16007)) (M := (5, none, [], ev_b470)) [] rfl rfl rfl rfl (by decide +kernel) ev_k470 ev_cc470
set_option maxRecDepth 100000 in
theorem ev_m471 : ev_Mok 471 := ev_mk (N := (⟨"PathProverModel", "cased", "(LPathProverModel$Node;LPathProverModel$Instance;I)I"⟩, prog_15_method_65_code, 7, (some .int), [], 15239)) (M := (7, (some .int), [], ev_b471)) [] rfl rfl rfl rfl (by decide +kernel) ev_k471 ev_cc471
set_option maxRecDepth 100000 in
theorem ev_m472 : ev_Mok 472 := ev_mk (N := (⟨"PathProverModel", "chained", "(LPathProverModel$Node;LPathProverModel$Instance;IZ)I"⟩, prog_15_method_66_code, 8, (some .int), [], 16003)) (M := (8, (some .int), [], ev_b472)) [] rfl rfl rfl rfl (by decide +kernel) ev_k472 ev_cc472
set_option maxRecDepth 100000 in
theorem ev_m473 : ev_Mok 473 := ev_mk (N := (⟨"PathProverModel", "high", "(LPathProverModel$Node;LPathProverModel$Instance;)I"⟩, prog_15_method_58_code, 6, (some .int), [], 15210)) (M := (6, (some .int), [], ev_b473)) [] rfl rfl rfl rfl (by decide +kernel) ev_k473 ev_cc473
set_option maxRecDepth 100000 in
theorem ev_m474 : ev_Mok 474 := ev_mk (N := (⟨"PathProverModel", "highChoice", "(LPathProverModel$Node;LPathProverModel$Instance;)I"⟩, prog_15_method_59_code, 5, (some .int), [], 15215)) (M := (5, (some .int), [], ev_b474)) [] rfl rfl rfl rfl (by decide +kernel) ev_k474 ev_cc474
set_option maxRecDepth 100000 in
theorem ev_m475 : ev_Mok 475 := ev_mk (N := (⟨"PathProverModel", "noExpressionInItself", "()V"⟩, prog_15_method_56_code, 6, none, [], 15181)) (M := (6, none, [], ev_b475)) [] rfl rfl rfl rfl (by decide +kernel) ev_k475 ev_cc475
set_option maxRecDepth 100000 in
theorem ev_m476 : ev_Mok 476 := ev_mk (N := (⟨"PathProverModel", "names", "(LPathProverModel$Node;LPathProverModel$Instance;)V"⟩, prog_15_method_54_code, 4, none, [], 15202)) (M := (4, none, [], ev_b476)) [] rfl rfl rfl rfl (by decide +kernel) ev_k476 ev_cc476
set_option maxRecDepth 100000 in
theorem ev_m477 : ev_Mok 477 := ev_mk (N := (⟨"PathProverModel", "named", "(LPathProverModel$Node;)Z"⟩, prog_15_method_53_code, 2, (some .boolean), [], 15189)) (M := (2, (some .boolean), [], ev_b477)) [] rfl rfl rfl rfl (by decide +kernel) ev_k477 ev_cc477
set_option maxRecDepth 100000 in
theorem ev_m478 : ev_Mok 478 := ev_mk (N := (⟨"PathProverModel", "missing", "(LPathProverModel$Node;LPathProverModel$Instance;)I"⟩, prog_15_method_55_code, 5, (some .int), [], 15185)) (M := (5, (some .int), [], ev_b478)) [] rfl rfl rfl rfl (by decide +kernel) ev_k478 ev_cc478
set_option maxRecDepth 100000 in
theorem ev_m479 : ev_Mok 479 := ev_mk (N := (⟨"PathProverModel", "stand", "(LPathProverModel$Node;LPathProverModel$Instance;)I"⟩, prog_15_method_50_code, 3, (some .int), [], 15167)) (M := (3, (some .int), [], ev_b479)) [] rfl rfl rfl rfl (by decide +kernel) ev_k479 ev_cc479
