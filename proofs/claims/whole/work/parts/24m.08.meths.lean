/-! Printed by wip/whole/gen8.py: further methods -/
set_option maxRecDepth 100000 in
theorem ev_m480 : ev_Mok 480 := ev_mk (N := (⟨"PathProverModel", "more", "([LPathProverModel$Instance;I)[LPathProverModel$Instance;"⟩, prog_15_method_42_code, 4, (some (.array (.object "PathProverModel$Instance"))), [], 15173)) (M := (4, (some (.array (.object "PathProverModel$Instance"))), [], ev_b480)) [] rfl rfl rfl rfl (by decide +kernel) ev_k480 ev_cc480
set_option maxRecDepth 100000 in
theorem ev_m481 : ev_Mok 481 := ev_mk (N := (⟨"PathProverModel", "more", "([LPathProverModel$Node;I)[LPathProverModel$Node;"⟩, prog_15_method_41_code, 4, (some (.array (.object "PathProverModel$Node"))), [], 15170)) (M := (4, (some (.array (.object "PathProverModel$Node"))), [], ev_b481)) [] rfl rfl rfl rfl (by decide +kernel) ev_k481 ev_cc481
set_option maxRecDepth 100000 in
theorem ev_m482 : ev_Mok 482 := ev_mk (N := (⟨"PathProverModel", "soundText", "(LPathProverModel$Module;)V"⟩, prog_15_method_47_code, 8, none, [], 15098)) (M := (8, none, [], ev_b482)) [] rfl rfl rfl rfl (by decide +kernel) ev_k482 ev_cc482
set_option maxRecDepth 100000 in
theorem ev_m483 : ev_Mok 483 := ev_mk (N := (⟨"PathProverModel", "noCycle", "()V"⟩, prog_15_method_48_code, 8, none, [], 15123)) (M := (8, none, [], ev_b483)) [] rfl rfl rfl rfl (by decide +kernel) ev_k483 ev_cc483
set_option maxRecDepth 100000 in
theorem ev_m484 : ev_Mok 484 := ev_mk (N := (⟨"PathProverModel", "differentNames", "(LPathProverModel$Module;)V"⟩, prog_15_method_44_code, 5, none, [], 15102)) (M := (5, none, [], ev_b484)) [] rfl rfl rfl rfl (by decide +kernel) ev_k484 ev_cc484
set_option maxRecDepth 100000 in
theorem ev_m485 : ev_Mok 485 := ev_mk (N := (⟨"PathProverModel", "soundType", "(LPathProverModel$Node;)V"⟩, prog_15_method_45_code, 5, none, [], 15107)) (M := (5, none, [], ev_b485)) [] rfl rfl rfl rfl (by decide +kernel) ev_k485 ev_cc485
set_option maxRecDepth 100000 in
theorem ev_m486 : ev_Mok 486 := ev_mk (N := (⟨"PathProverModel", "name", "()Ljava/lang/String;"⟩, prog_15_method_13_code, 3, (some (.object "java/lang/String")), [], 14036)) (M := (3, (some (.object "java/lang/String")), [], ev_b486)) [] rfl rfl rfl rfl (by decide +kernel) ev_k486 ev_cc486
set_option maxRecDepth 100000 in
theorem ev_m487 : ev_Mok 487 := ev_mk (N := (⟨"PathProverModel", "named", "(Ljava/lang/String;Ljava/lang/String;LPathProverModel$Node;)LPathProverModel$Node;"⟩, prog_15_method_15_code, 5, (some (.object "PathProverModel$Node")), [], 14146)) (M := (5, (some (.object "PathProverModel$Node")), [], ev_b487)) [] rfl rfl rfl rfl (by decide +kernel) ev_k487 ev_cc487
set_option maxRecDepth 100000 in
theorem ev_m488 : ev_Mok 488 := ev_mk (N := (⟨"PathProverModel", "variables", "(LPathProverModel$Module;)V"⟩, prog_15_method_33_code, 5, none, [], 14156)) (M := (5, none, [], ev_b488)) [] rfl rfl rfl rfl (by decide +kernel) ev_k488 ev_cc488
set_option maxRecDepth 100000 in
theorem ev_m489 : ev_Mok 489 := ev_mk (N := (⟨"PathProverModel", "definitions", "(LPathProverModel$Module;)V"⟩, prog_15_method_34_code, 4, none, [], 15005)) (M := (4, none, [], ev_b489)) [] rfl rfl rfl rfl (by decide +kernel) ev_k489 ev_cc489
set_option maxRecDepth 100000 in
theorem ev_m490 : ev_Mok 490 := ev_mk (N := (⟨"PathProverModel", "assignments", "(LPathProverModel$Module;)V"⟩, prog_15_method_35_code, 5, none, [], 15010)) (M := (5, none, [], ev_b490)) [] rfl rfl rfl rfl (by decide +kernel) ev_k490 ev_cc490
set_option maxRecDepth 100000 in
theorem ev_m491 : ev_Mok 491 := ev_mk (N := (⟨"PathProverModel", "expression", "()LPathProverModel$Node;"⟩, prog_15_method_16_code, 3, (some (.object "PathProverModel$Node")), [], 14181)) (M := (3, (some (.object "PathProverModel$Node")), [], ev_b491)) [] rfl rfl rfl rfl (by decide +kernel) ev_k491 ev_cc491
set_option maxRecDepth 100000 in
theorem ev_m492 : ev_Mok 492 := ev_mk (N := (⟨"PathProverModel", "implication", "()LPathProverModel$Node;"⟩, prog_15_method_17_code, 3, (some (.object "PathProverModel$Node")), [], 14185)) (M := (3, (some (.object "PathProverModel$Node")), [], ev_b492)) [] rfl rfl rfl rfl (by decide +kernel) ev_k492 ev_cc492
set_option maxRecDepth 100000 in
theorem ev_m493 : ev_Mok 493 := ev_mk (N := (⟨"PathProverModel", "disjunction", "()LPathProverModel$Node;"⟩, prog_15_method_18_code, 4, (some (.object "PathProverModel$Node")), [], 14189)) (M := (4, (some (.object "PathProverModel$Node")), [], ev_b493)) [] rfl rfl rfl rfl (by decide +kernel) ev_k493 ev_cc493
set_option maxRecDepth 100000 in
theorem ev_m494 : ev_Mok 494 := ev_mk (N := (⟨"PathProverModel", "conjunction", "()LPathProverModel$Node;"⟩, prog_15_method_19_code, 3, (some (.object "PathProverModel$Node")), [], 14193)) (M := (3, (some (.object "PathProverModel$Node")), [], ev_b494)) [] rfl rfl rfl rfl (by decide +kernel) ev_k494 ev_cc494
set_option maxRecDepth 100000 in
theorem ev_m495 : ev_Mok 495 := ev_mk (N := (⟨"PathProverModel", "prefix", "()LPathProverModel$Node;"⟩, prog_15_method_20_code, 2, (some (.object "PathProverModel$Node")), [], 14197)) (M := (2, (some (.object "PathProverModel$Node")), [], ev_b495)) [] rfl rfl rfl rfl (by decide +kernel) ev_k495 ev_cc495
set_option maxRecDepth 100000 in
theorem ev_m496 : ev_Mok 496 := ev_mk (N := (⟨"PathProverModel", "nest", "()V"⟩, prog_15_method_14_code, 2, none, [], 14177)) (M := (2, none, [], ev_b496)) [] rfl rfl rfl rfl (by decide +kernel) ev_k496 ev_cc496
set_option maxRecDepth 100000 in
theorem ev_m497 : ev_Mok 497 := ev_mk (N := (⟨"PathProverModel", "relation", "()LPathProverModel$Node;"⟩, prog_15_method_21_code, 4, (some (.object "PathProverModel$Node")), [], 14201)) (M := (4, (some (.object "PathProverModel$Node")), [], ev_b497)) [] rfl rfl rfl rfl (by decide +kernel) ev_k497 ev_cc497
set_option maxRecDepth 100000 in
theorem ev_m498 : ev_Mok 498 := ev_mk (N := (⟨"PathProverModel", "sum", "()LPathProverModel$Node;"⟩, prog_15_method_22_code, 4, (some (.object "PathProverModel$Node")), [], 14205)) (M := (4, (some (.object "PathProverModel$Node")), [], ev_b498)) [] rfl rfl rfl rfl (by decide +kernel) ev_k498 ev_cc498
set_option maxRecDepth 100000 in
theorem ev_m499 : ev_Mok 499 := ev_mk (N := (⟨"PathProverModel", "term", "()LPathProverModel$Node;"⟩, prog_15_method_23_code, 4, (some (.object "PathProverModel$Node")), [], 14209)) (M := (4, (some (.object "PathProverModel$Node")), [], ev_b499)) [] rfl rfl rfl rfl (by decide +kernel) ev_k499 ev_cc499
set_option maxRecDepth 100000 in
theorem ev_m500 : ev_Mok 500 := ev_mk (N := (⟨"PathProverModel", "factor", "()LPathProverModel$Node;"⟩, prog_15_method_25_code, 2, (some (.object "PathProverModel$Node")), [], 14213)) (M := (2, (some (.object "PathProverModel$Node")), [], ev_b500)) [] rfl rfl rfl rfl (by decide +kernel) ev_k500 ev_cc500
set_option maxRecDepth 100000 in
theorem ev_m501 : ev_Mok 501 := ev_mk (N := (⟨"PathProverModel", "path", "(Ljava/lang/String;)LPathProverModel$Node;"⟩, prog_15_method_24_code, 6, (some (.object "PathProverModel$Node")), [], 14218)) (M := (6, (some (.object "PathProverModel$Node")), [], ev_b501)) [] rfl rfl rfl rfl (by decide +kernel) ev_k501 ev_cc501
set_option maxRecDepth 100000 in
theorem ev_m502 : ev_Mok 502 := ev_mk (N := (⟨"PathProverModel", "cases", "(Z)LPathProverModel$Node;"⟩, prog_15_method_26_code, 3, (some (.object "PathProverModel$Node")), [], 14222)) (M := (3, (some (.object "PathProverModel$Node")), [], ev_b502)) [] rfl rfl rfl rfl (by decide +kernel) ev_k502 ev_cc502
set_option maxRecDepth 100000 in
theorem ev_m503 : ev_Mok 503 := ev_mk (N := (⟨"PathProverModel", "choice", "()LPathProverModel$Node;"⟩, prog_15_method_27_code, 2, (some (.object "PathProverModel$Node")), [], 14226)) (M := (2, (some (.object "PathProverModel$Node")), [], ev_b503)) [] rfl rfl rfl rfl (by decide +kernel) ev_k503 ev_cc503
set_option maxRecDepth 100000 in
theorem ev_m504 : ev_Mok 504 := ev_mk (N := (⟨"PathProverModel", "atName", "()Z"⟩, prog_15_method_10_code, 1, (some .boolean), [], 14040)) (M := (1, (some .boolean), [], ev_b504)) [] rfl rfl rfl rfl (by decide +kernel) ev_k504 ev_cc504
set_option maxRecDepth 100000 in
theorem ev_m505 : ev_Mok 505 := ev_mk (N := (⟨"PathProverModel", "kept", "()Z"⟩, prog_15_method_9_code, 5, (some .boolean), [], 14044)) (M := (5, (some .boolean), [], ev_b505)) [] rfl rfl rfl rfl (by decide +kernel) ev_k505 ev_cc505
set_option maxRecDepth 100000 in
theorem ev_m506 : ev_Mok 506 := ev_mk (N := (⟨"PathProverModel", "type", "()LPathProverModel$Node;"⟩, prog_15_method_30_code, 4, (some (.object "PathProverModel$Node")), [], 14160)) (M := (4, (some (.object "PathProverModel$Node")), [], ev_b506)) [] rfl rfl rfl rfl (by decide +kernel) ev_k506 ev_cc506
set_option maxRecDepth 100000 in
theorem ev_m507 : ev_Mok 507 := ev_mk (N := (⟨"PathProverModel", "noteSymbols", "(LPathProverModel$Node;)V"⟩, prog_15_method_32_code, 6, none, [], 14232)) (M := (6, none, [], ev_b507)) [] rfl rfl rfl rfl (by decide +kernel) ev_k507 ev_cc507
set_option maxRecDepth 100000 in
theorem ev_m508 : ev_Mok 508 := ev_mk (N := (⟨"PathProverModel", "value", "()LPathProverModel$Node;"⟩, prog_15_method_29_code, 2, (some (.object "PathProverModel$Node")), [], 14165)) (M := (2, (some (.object "PathProverModel$Node")), [], ev_b508)) [] rfl rfl rfl rfl (by decide +kernel) ev_k508 ev_cc508
set_option maxRecDepth 100000 in
theorem ev_m509 : ev_Mok 509 := ev_mk (N := (⟨"PathProverModel", "whole", "()I"⟩, prog_15_method_28_code, 4, (some .int), [], 14171)) (M := (4, (some .int), [], ev_b509)) [] rfl rfl rfl rfl (by decide +kernel) ev_k509 ev_cc509
set_option maxRecDepth 100000 in
theorem ev_m510 : ev_Mok 510 := ev_mk (N := (⟨"PathProverModel", "letter", "(I)Z"⟩, prog_15_method_4_code, 3, (some .boolean), [], 13222)) (M := (3, (some .boolean), [], ev_b510)) [] rfl rfl rfl rfl (by decide +kernel) ev_k510 ev_cc510
set_option maxRecDepth 100000 in
theorem ev_m511 : ev_Mok 511 := ev_mk (N := (⟨"PathProverModel", "digit", "(I)Z"⟩, prog_15_method_5_code, 2, (some .boolean), [], 13226)) (M := (2, (some .boolean), [], ev_b511)) [] rfl rfl rfl rfl (by decide +kernel) ev_k511 ev_cc511
set_option maxRecDepth 100000 in
theorem ev_m512 : ev_Mok 512 := ev_mk (N := (⟨"PathProverModel$Bits", "has", "(I)Z"⟩, prog_16_method_2_code, 2, (some .boolean), [], 16027)) (M := (2, (some .boolean), [], ev_b512)) [] rfl rfl rfl rfl (by decide +kernel) ev_k512 ev_cc512
set_option maxRecDepth 100000 in
theorem ev_m513 : ev_Mok 513 := ev_mk (N := (⟨"PathProverModel$Bits", "put", "(IZ)V"⟩, prog_16_method_3_code, 3, none, [], 16023)) (M := (3, none, [], ev_b513)) [] rfl rfl rfl rfl (by decide +kernel) ev_k513 ev_cc513
set_option maxRecDepth 100000 in
theorem ev_m514 : ev_Mok 514 := ev_mk (N := (⟨"PathProverModel$Instance", "param", "(Ljava/lang/String;)I"⟩, prog_17_method_2_code, 3, (some .int), [], 15197)) (M := (3, (some .int), [], ev_b514)) [] rfl rfl rfl rfl (by decide +kernel) ev_k514 ev_cc514
set_option maxRecDepth 100000 in
theorem ev_m515 : ev_Mok 515 := ev_mk (N := (⟨"PathProverModel$Instance", "<init>", "(LPathProverModel$Module;LPathProverModel$Instance;)V"⟩, prog_17_method_1_code, 3, none, [], 15137)) (M := (3, none, [], ev_b515)) [] rfl rfl rfl rfl (by decide +kernel) ev_k515 ev_cc515
set_option maxRecDepth 100000 in
theorem ev_m516 : ev_Mok 516 := ev_mk (N := (⟨"PathProverModel$Model", "<init>", "()V"⟩, prog_18_method_1_code, 1, none, [], 15017)) (M := (1, none, [], ev_b516)) [] rfl rfl rfl rfl (by decide +kernel) ev_k516 ev_cc516
set_option maxRecDepth 100000 in
theorem ev_m517 : ev_Mok 517 := ev_mk (N := (⟨"PathProverModel$Module", "<init>", "(Ljava/lang/String;)V"⟩, prog_19_method_1_code, 2, none, [], 14047)) (M := (2, none, [], ev_b517)) [] rfl rfl rfl rfl (by decide +kernel) ev_k517 ev_cc517
set_option maxRecDepth 100000 in
theorem ev_m518 : ev_Mok 518 := ev_mk (N := (⟨"PathProverModel$Node", "is", "(Ljava/lang/String;)Z"⟩, prog_20_method_4_code, 2, (some .boolean), [], 14236)) (M := (2, (some .boolean), [], ev_b518)) [] rfl rfl rfl rfl (by decide +kernel) ev_k518 ev_cc518
set_option maxRecDepth 100000 in
theorem ev_m519 : ev_Mok 519 := ev_mk (N := (⟨"PathProverModel$Node", "<init>", "(Ljava/lang/String;)V"⟩, prog_20_method_1_code, 2, none, [], 14054)) (M := (2, none, [], ev_b519)) [] rfl rfl rfl rfl (by decide +kernel) ev_k519 ev_cc519
set_option maxRecDepth 100000 in
theorem ev_m520 : ev_Mok 520 := ev_mk (N := (⟨"PathProverModel$Node", "add", "(LPathProverModel$Node;)LPathProverModel$Node;"⟩, prog_20_method_3_code, 4, (some (.object "PathProverModel$Node")), [], 14152)) (M := (4, (some (.object "PathProverModel$Node")), [], ev_b520)) [] rfl rfl rfl rfl (by decide +kernel) ev_k520 ev_cc520
set_option maxRecDepth 100000 in
theorem ev_m521 : ev_Mok 521 := ev_mk (N := (⟨"PathProverModel$Node", "codeOf", "(Ljava/lang/String;)I"⟩, prog_20_method_2_code, 1, (some .int), [], 14060)) (M := (1, (some .int), [], ev_b521)) [] rfl rfl rfl rfl (by decide +kernel) ev_k521 ev_cc521
set_option maxRecDepth 100000 in
theorem ev_m522 : ev_Mok 522 := ev_mk (N := (⟨"java/lang/StringBuilder", "<init>", "()V"⟩, prog_34_method_1_code, 1, none, [], 7205)) (M := (1, none, [], ev_b522)) [] rfl rfl rfl rfl (by decide +kernel) ev_k522 ev_cc522
set_option maxRecDepth 100000 in
theorem ev_m523 : ev_Mok 523 := ev_mk (N := (⟨"java/lang/AbstractStringBuilder", "<init>", "(I)V"⟩, prog_21_method_2_code, 2, none, [], 7208)) (M := (2, none, [], ev_b523)) [] rfl rfl rfl rfl (by decide +kernel) ev_k523 ev_cc523
set_option maxRecDepth 100000 in
theorem ev_m524 : ev_Mok 524 := ev_mk (N := (⟨"java/lang/StringBuilder", "append", "(C)Ljava/lang/StringBuilder;"⟩, prog_34_method_14_code, 2, (some (.object "java/lang/StringBuilder")), [], 13232)) (M := (2, (some (.object "java/lang/StringBuilder")), [], ev_b524)) [] rfl rfl rfl rfl (by decide +kernel) ev_k524 ev_cc524
set_option maxRecDepth 100000 in
theorem ev_m525 : ev_Mok 525 := ev_mk (N := (⟨"java/lang/AbstractStringBuilder", "append", "(C)Ljava/lang/AbstractStringBuilder;"⟩, prog_21_method_31_code, 2, (some (.object "java/lang/AbstractStringBuilder")), [], 13235)) (M := (2, (some (.object "java/lang/AbstractStringBuilder")), [], ev_b525)) [] rfl rfl rfl rfl (by decide +kernel) ev_k525 ev_cc525
set_option maxRecDepth 100000 in
theorem ev_m526 : ev_Mok 526 := ev_mk (N := (⟨"java/lang/AbstractStringBuilder", "ensureCapacityInternal", "(I)V"⟩, prog_21_method_9_code, 3, none, [], 8006)) (M := (3, none, [], ev_b526)) [] rfl rfl rfl rfl (by decide +kernel) ev_k526 ev_cc526
set_option maxRecDepth 100000 in
theorem ev_m527 : ev_Mok 527 := ev_mk (N := (⟨"java/lang/AbstractStringBuilder", "newCapacity", "(I)I"⟩, prog_21_method_10_code, 6, (some .int), [], 8010)) (M := (6, (some .int), [], ev_b527)) [] rfl rfl rfl rfl (by decide +kernel) ev_k527 ev_cc527
set_option maxRecDepth 100000 in
theorem ev_m528 : ev_Mok 528 := ev_mk (N := (⟨"jdk/internal/util/ArraysSupport", "newLength", "(III)I"⟩, prog_41_method_27_code, 4, (some .int), [], 8013)) (M := (4, (some .int), [], ev_b528)) [] rfl rfl rfl rfl (by decide +kernel) ev_k528 ev_cc528
set_option maxRecDepth 100000 in
theorem ev_m529 : ev_Mok 529 := ev_mk (N := (⟨"java/lang/AbstractStringBuilder", "isLatin1", "()Z"⟩, prog_21_method_68_code, 1, (some .boolean), [], 8025)) (M := (1, (some .boolean), [], ev_b529)) [] rfl rfl rfl rfl (by decide +kernel) ev_k529 ev_cc529
set_option maxRecDepth 100000 in
theorem ev_m530 : ev_Mok 530 := ev_mk (N := (⟨"java/lang/StringLatin1", "canEncode", "(C)Z"⟩, prog_35_method_3_code, 1, (some .boolean), [], 13238)) (M := (1, (some .boolean), [], ev_b530)) [] rfl rfl rfl rfl (by decide +kernel) ev_k530 ev_cc530
set_option maxRecDepth 100000 in
theorem ev_m531 : ev_Mok 531 := ev_mk (N := (⟨"java/lang/StringBuilder", "toString", "()Ljava/lang/String;"⟩, prog_34_method_42_code, 1, (some (.object "java/lang/String")), [], 8097)) (M := (1, (some (.object "java/lang/String")), [], ev_b531)) [] rfl rfl rfl rfl (by decide +kernel) ev_k531 ev_cc531
set_option maxRecDepth 100000 in
theorem ev_m532 : ev_Mok 532 := ev_mk (N := (⟨"java/lang/String", "<init>", "(Ljava/lang/StringBuilder;)V"⟩, prog_33_method_53_code, 2, none, [], 8102)) (M := (2, none, [], ev_b532)) [] rfl rfl rfl rfl (by decide +kernel) ev_k532 ev_cc532
set_option maxRecDepth 100000 in
theorem ev_m533 : ev_Mok 533 := ev_mk (N := (⟨"java/lang/String", "<init>", "(Ljava/lang/AbstractStringBuilder;Ljava/lang/Void;)V"⟩, prog_33_method_150_code, 5, none, [], 8105)) (M := (5, none, [], ev_b533)) [] rfl rfl rfl rfl (by decide +kernel) ev_k533 ev_cc533
set_option maxRecDepth 100000 in
theorem ev_m534 : ev_Mok 534 := ev_mk (N := (⟨"java/lang/AbstractStringBuilder", "getValue", "()[B"⟩, prog_21_method_64_code, 1, (some (.array .byte)), [], 8111)) (M := (1, (some (.array .byte)), [], ev_b534)) [] rfl rfl rfl rfl (by decide +kernel) ev_k534 ev_cc534
set_option maxRecDepth 100000 in
theorem ev_m535 : ev_Mok 535 := ev_mk (N := (⟨"java/lang/StringBuilder", "length", "()I"⟩, prog_34_method_93_code, 1, (some .int), [], 8117)) (M := (1, (some .int), [], ev_b535)) [] rfl rfl rfl rfl (by decide +kernel) ev_k535 ev_cc535
set_option maxRecDepth 100000 in
theorem ev_m536 : ev_Mok 536 := ev_mk (N := (⟨"java/lang/AbstractStringBuilder", "length", "()I"⟩, prog_21_method_6_code, 1, (some .int), [], 8119)) (M := (1, (some .int), [], ev_b536)) [] rfl rfl rfl rfl (by decide +kernel) ev_k536 ev_cc536
set_option maxRecDepth 100000 in
theorem ev_m537 : ev_Mok 537 := ev_mk (N := (⟨"java/util/Arrays", "copyOfRange", "([BII)[B"⟩, prog_40_method_132_code, 3, (some (.array .byte)), [], 8123)) (M := (3, (some (.array .byte)), [], ev_b537)) [] rfl rfl rfl rfl (by decide +kernel) ev_k537 ev_cc537
set_option maxRecDepth 100000 in
theorem ev_m538 : ev_Mok 538 := ev_mk (N := (⟨"java/util/Arrays", "copyOfRangeByte", "([BII)[B"⟩, prog_40_method_133_code, 5, (some (.array .byte)), [], 8126)) (M := (5, (some (.array .byte)), [], ev_b538)) [] rfl rfl rfl rfl (by decide +kernel) ev_k538 ev_cc538
set_option maxRecDepth 100000 in
theorem ev_m539 : ev_Mok 539 := ev_mk (N := (⟨"java/util/Arrays", "checkLength", "(II)V"⟩, prog_40_method_131_code, 2, none, [], 8129)) (M := (2, none, [], ev_b539)) [] rfl rfl rfl rfl (by decide +kernel) ev_k539 ev_cc539
