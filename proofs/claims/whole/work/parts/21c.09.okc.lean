/-! Printed by wip/whole/gen8.py: the methods' calls are words of the tables -/
set_option maxRecDepth 100000 in
theorem ev_cc502_0 : ev_b502_0.all (ev_okc "PathProverModel") = true := by decide +kernel
set_option maxRecDepth 100000 in
theorem ev_cc502_1 : ev_b502_1.all (ev_okc "PathProverModel") = true := by decide +kernel
theorem ev_cc502 : ev_b502.all (ev_okc "PathProverModel") = true := (ev_all ev_cc502_0 ev_cc502_1)
set_option maxRecDepth 100000 in
theorem ev_cc503_0 : ev_b503_0.all (ev_okc "PathProverModel") = true := by decide +kernel
set_option maxRecDepth 100000 in
theorem ev_cc503_1 : ev_b503_1.all (ev_okc "PathProverModel") = true := by decide +kernel
theorem ev_cc503 : ev_b503.all (ev_okc "PathProverModel") = true := (ev_all ev_cc503_0 ev_cc503_1)
set_option maxRecDepth 100000 in
theorem ev_cc504 : ev_b504.all (ev_okc "PathProverModel") = true := by decide +kernel
set_option maxRecDepth 100000 in
theorem ev_cc505 : ev_b505.all (ev_okc "PathProverModel") = true := by decide +kernel
set_option maxRecDepth 100000 in
theorem ev_cc506_0 : ev_b506_0.all (ev_okc "PathProverModel") = true := by decide +kernel
set_option maxRecDepth 100000 in
theorem ev_cc506_1 : ev_b506_1.all (ev_okc "PathProverModel") = true := by decide +kernel
set_option maxRecDepth 100000 in
theorem ev_cc506_2 : ev_b506_2.all (ev_okc "PathProverModel") = true := by decide +kernel
set_option maxRecDepth 100000 in
theorem ev_cc506_3 : ev_b506_3.all (ev_okc "PathProverModel") = true := by decide +kernel
theorem ev_cc506 : ev_b506.all (ev_okc "PathProverModel") = true := (ev_all ev_cc506_0 (ev_all ev_cc506_1 (ev_all ev_cc506_2 ev_cc506_3)))
set_option maxRecDepth 100000 in
theorem ev_cc507_0 : ev_b507_0.all (ev_okc "PathProverModel") = true := by decide +kernel
set_option maxRecDepth 100000 in
theorem ev_cc507_1 : ev_b507_1.all (ev_okc "PathProverModel") = true := by decide +kernel
theorem ev_cc507 : ev_b507.all (ev_okc "PathProverModel") = true := (ev_all ev_cc507_0 ev_cc507_1)
set_option maxRecDepth 100000 in
theorem ev_cc508 : ev_b508.all (ev_okc "PathProverModel") = true := by decide +kernel
set_option maxRecDepth 100000 in
theorem ev_cc509 : ev_b509.all (ev_okc "PathProverModel") = true := by decide +kernel
set_option maxRecDepth 100000 in
theorem ev_cc510 : ev_b510.all (ev_okc "PathProverModel") = true := by decide +kernel
set_option maxRecDepth 100000 in
theorem ev_cc511 : ev_b511.all (ev_okc "PathProverModel") = true := by decide +kernel
set_option maxRecDepth 100000 in
theorem ev_cc512 : ev_b512.all (ev_okc "PathProverModel$Bits") = true := by decide +kernel
set_option maxRecDepth 100000 in
theorem ev_cc513 : ev_b513.all (ev_okc "PathProverModel$Bits") = true := by decide +kernel
set_option maxRecDepth 100000 in
theorem ev_cc514 : ev_b514.all (ev_okc "PathProverModel$Instance") = true := by decide +kernel
set_option maxRecDepth 100000 in
theorem ev_cc515 : ev_b515.all (ev_okc "PathProverModel$Instance") = true := by decide +kernel
set_option maxRecDepth 100000 in
theorem ev_cc516 : ev_b516.all (ev_okc "PathProverModel$Model") = true := by decide +kernel
set_option maxRecDepth 100000 in
theorem ev_cc517 : ev_b517.all (ev_okc "PathProverModel$Module") = true := by decide +kernel
set_option maxRecDepth 100000 in
theorem ev_cc518 : ev_b518.all (ev_okc "PathProverModel$Node") = true := by decide +kernel
set_option maxRecDepth 100000 in
theorem ev_cc519 : ev_b519.all (ev_okc "PathProverModel$Node") = true := by decide +kernel
set_option maxRecDepth 100000 in
theorem ev_cc520_0 : ev_b520_0.all (ev_okc "PathProverModel$Node") = true := by decide +kernel
set_option maxRecDepth 100000 in
theorem ev_cc520_1 : ev_b520_1.all (ev_okc "PathProverModel$Node") = true := by decide +kernel
theorem ev_cc520 : ev_b520.all (ev_okc "PathProverModel$Node") = true := (ev_all ev_cc520_0 ev_cc520_1)
set_option maxRecDepth 100000 in
theorem ev_cc521_0 : ev_b521_0.all (ev_okc "PathProverModel$Node") = true := by decide +kernel
set_option maxRecDepth 100000 in
theorem ev_cc521_1 : ev_b521_1.all (ev_okc "PathProverModel$Node") = true := by decide +kernel
set_option maxRecDepth 100000 in
theorem ev_cc521_2 : ev_b521_2.all (ev_okc "PathProverModel$Node") = true := by decide +kernel
set_option maxRecDepth 100000 in
theorem ev_cc521_3 : ev_b521_3.all (ev_okc "PathProverModel$Node") = true := by decide +kernel
set_option maxRecDepth 100000 in
theorem ev_cc521_4 : ev_b521_4.all (ev_okc "PathProverModel$Node") = true := by decide +kernel
set_option maxRecDepth 100000 in
theorem ev_cc521_5 : ev_b521_5.all (ev_okc "PathProverModel$Node") = true := by decide +kernel
theorem ev_cc521 : ev_b521.all (ev_okc "PathProverModel$Node") = true := (ev_all ev_cc521_0 (ev_all ev_cc521_1 (ev_all ev_cc521_2 (ev_all ev_cc521_3 (ev_all ev_cc521_4 ev_cc521_5)))))
set_option maxRecDepth 100000 in
theorem ev_cc522 : ev_b522.all (ev_okc "java/lang/StringBuilder") = true := by decide +kernel
set_option maxRecDepth 100000 in
theorem ev_cc523 : ev_b523.all (ev_okc "java/lang/AbstractStringBuilder") = true := by decide +kernel
set_option maxRecDepth 100000 in
theorem ev_cc524 : ev_b524.all (ev_okc "java/lang/StringBuilder") = true := by decide +kernel
set_option maxRecDepth 100000 in
theorem ev_cc525_0 : ev_b525_0.all (ev_okc "java/lang/AbstractStringBuilder") = true := by decide +kernel
set_option maxRecDepth 100000 in
theorem ev_cc525_1 : ev_b525_1.all (ev_okc "java/lang/AbstractStringBuilder") = true := by decide +kernel
theorem ev_cc525 : ev_b525.all (ev_okc "java/lang/AbstractStringBuilder") = true := (ev_all ev_cc525_0 ev_cc525_1)
set_option maxRecDepth 100000 in
theorem ev_cc526 : ev_b526.all (ev_okc "java/lang/AbstractStringBuilder") = true := by decide +kernel
set_option maxRecDepth 100000 in
theorem ev_cc527 : ev_b527.all (ev_okc "java/lang/AbstractStringBuilder") = true := by decide +kernel
set_option maxRecDepth 100000 in
theorem ev_cc528 : ev_b528.all (ev_okc "jdk/internal/util/ArraysSupport") = true := by decide +kernel
set_option maxRecDepth 100000 in
theorem ev_cc529 : ev_b529.all (ev_okc "java/lang/AbstractStringBuilder") = true := by decide +kernel
set_option maxRecDepth 100000 in
theorem ev_cc530 : ev_b530.all (ev_okc "java/lang/StringLatin1") = true := by decide +kernel
set_option maxRecDepth 100000 in
theorem ev_cc531 : ev_b531.all (ev_okc "java/lang/StringBuilder") = true := by decide +kernel
set_option maxRecDepth 100000 in
theorem ev_cc532 : ev_b532.all (ev_okc "java/lang/String") = true := by decide +kernel
set_option maxRecDepth 100000 in
theorem ev_cc533_0 : ev_b533_0.all (ev_okc "java/lang/String") = true := by decide +kernel
set_option maxRecDepth 100000 in
theorem ev_cc533_1 : ev_b533_1.all (ev_okc "java/lang/String") = true := by decide +kernel
theorem ev_cc533 : ev_b533.all (ev_okc "java/lang/String") = true := (ev_all ev_cc533_0 ev_cc533_1)
set_option maxRecDepth 100000 in
theorem ev_cc534 : ev_b534.all (ev_okc "java/lang/AbstractStringBuilder") = true := by decide +kernel
set_option maxRecDepth 100000 in
theorem ev_cc535 : ev_b535.all (ev_okc "java/lang/StringBuilder") = true := by decide +kernel
set_option maxRecDepth 100000 in
theorem ev_cc536 : ev_b536.all (ev_okc "java/lang/AbstractStringBuilder") = true := by decide +kernel
set_option maxRecDepth 100000 in
theorem ev_cc537 : ev_b537.all (ev_okc "java/util/Arrays") = true := by decide +kernel
set_option maxRecDepth 100000 in
theorem ev_cc538 : ev_b538.all (ev_okc "java/util/Arrays") = true := by decide +kernel
set_option maxRecDepth 100000 in
theorem ev_cc539 : ev_b539.all (ev_okc "java/util/Arrays") = true := by decide +kernel
