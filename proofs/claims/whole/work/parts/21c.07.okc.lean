/-! Printed by wip/whole/gen8.py: the methods' calls are words of the tables -/
set_option maxRecDepth 100000 in
theorem ev_cc403 : ev_b403.all (ev_okc "PathProver$Relation") = true := by decide +kernel
set_option maxRecDepth 100000 in
theorem ev_cc404 : ev_b404.all (ev_okc "PathProver$Relation") = true := by decide +kernel
set_option maxRecDepth 100000 in
theorem ev_cc405 : ev_b405.all (ev_okc "PathProver$Relation") = true := by decide +kernel
set_option maxRecDepth 100000 in
theorem ev_cc406_0 : ev_b406_0.all (ev_okc "PathProverModel") = true := by decide +kernel
set_option maxRecDepth 100000 in
theorem ev_cc406_1 : ev_b406_1.all (ev_okc "PathProverModel") = true := by decide +kernel
theorem ev_cc406 : ev_b406.all (ev_okc "PathProverModel") = true := (ev_all ev_cc406_0 ev_cc406_1)
set_option maxRecDepth 100000 in
theorem ev_cc407 : ev_b407.all (ev_okc "PathProverModel") = true := by decide +kernel
set_option maxRecDepth 100000 in
theorem ev_cc408_0 : ev_b408_0.all (ev_okc "PathProverModel") = true := by decide +kernel
set_option maxRecDepth 100000 in
theorem ev_cc408_1 : ev_b408_1.all (ev_okc "PathProverModel") = true := by decide +kernel
set_option maxRecDepth 100000 in
theorem ev_cc408_2 : ev_b408_2.all (ev_okc "PathProverModel") = true := by decide +kernel
set_option maxRecDepth 100000 in
theorem ev_cc408_3 : ev_b408_3.all (ev_okc "PathProverModel") = true := by decide +kernel
theorem ev_cc408 : ev_b408.all (ev_okc "PathProverModel") = true := (ev_all ev_cc408_0 (ev_all ev_cc408_1 (ev_all ev_cc408_2 ev_cc408_3)))
set_option maxRecDepth 100000 in
theorem ev_cc409_0 : ev_b409_0.all (ev_okc "PathProverModel") = true := by decide +kernel
set_option maxRecDepth 100000 in
theorem ev_cc409_1 : ev_b409_1.all (ev_okc "PathProverModel") = true := by decide +kernel
theorem ev_cc409 : ev_b409.all (ev_okc "PathProverModel") = true := (ev_all ev_cc409_0 ev_cc409_1)
set_option maxRecDepth 100000 in
theorem ev_cc410 : ev_b410.all (ev_okc "PathProverModel") = true := by decide +kernel
set_option maxRecDepth 100000 in
theorem ev_cc411_0 : ev_b411_0.all (ev_okc "PathProverModel") = true := by decide +kernel
set_option maxRecDepth 100000 in
theorem ev_cc411_1 : ev_b411_1.all (ev_okc "PathProverModel") = true := by decide +kernel
set_option maxRecDepth 100000 in
theorem ev_cc411_2 : ev_b411_2.all (ev_okc "PathProverModel") = true := by decide +kernel
set_option maxRecDepth 100000 in
theorem ev_cc411_3 : ev_b411_3.all (ev_okc "PathProverModel") = true := by decide +kernel
set_option maxRecDepth 100000 in
theorem ev_cc411_4 : ev_b411_4.all (ev_okc "PathProverModel") = true := by decide +kernel
theorem ev_cc411 : ev_b411.all (ev_okc "PathProverModel") = true := (ev_all ev_cc411_0 (ev_all ev_cc411_1 (ev_all ev_cc411_2 (ev_all ev_cc411_3 ev_cc411_4))))
set_option maxRecDepth 100000 in
theorem ev_cc412 : ev_b412.all (ev_okc "PathProverModel") = true := by decide +kernel
set_option maxRecDepth 100000 in
theorem ev_cc413 : ev_b413.all (ev_okc "PathProverModel") = true := by decide +kernel
set_option maxRecDepth 100000 in
theorem ev_cc414_0 : ev_b414_0.all (ev_okc "PathProverModel") = true := by decide +kernel
set_option maxRecDepth 100000 in
theorem ev_cc414_1 : ev_b414_1.all (ev_okc "PathProverModel") = true := by decide +kernel
theorem ev_cc414 : ev_b414.all (ev_okc "PathProverModel") = true := (ev_all ev_cc414_0 ev_cc414_1)
set_option maxRecDepth 100000 in
theorem ev_cc415 : ev_b415.all (ev_okc "PathProverModel") = true := by decide +kernel
set_option maxRecDepth 100000 in
theorem ev_cc416_0 : ev_b416_0.all (ev_okc "PathProverModel") = true := by decide +kernel
set_option maxRecDepth 100000 in
theorem ev_cc416_1 : ev_b416_1.all (ev_okc "PathProverModel") = true := by decide +kernel
set_option maxRecDepth 100000 in
theorem ev_cc416_2 : ev_b416_2.all (ev_okc "PathProverModel") = true := by decide +kernel
theorem ev_cc416 : ev_b416.all (ev_okc "PathProverModel") = true := (ev_all ev_cc416_0 (ev_all ev_cc416_1 ev_cc416_2))
set_option maxRecDepth 100000 in
theorem ev_cc417_0 : ev_b417_0.all (ev_okc "PathProverModel") = true := by decide +kernel
set_option maxRecDepth 100000 in
theorem ev_cc417_1 : ev_b417_1.all (ev_okc "PathProverModel") = true := by decide +kernel
set_option maxRecDepth 100000 in
theorem ev_cc417_2 : ev_b417_2.all (ev_okc "PathProverModel") = true := by decide +kernel
theorem ev_cc417 : ev_b417.all (ev_okc "PathProverModel") = true := (ev_all ev_cc417_0 (ev_all ev_cc417_1 ev_cc417_2))
set_option maxRecDepth 100000 in
theorem ev_cc418_0 : ev_b418_0.all (ev_okc "PathProverModel") = true := by decide +kernel
set_option maxRecDepth 100000 in
theorem ev_cc418_1 : ev_b418_1.all (ev_okc "PathProverModel") = true := by decide +kernel
set_option maxRecDepth 100000 in
theorem ev_cc418_2 : ev_b418_2.all (ev_okc "PathProverModel") = true := by decide +kernel
set_option maxRecDepth 100000 in
theorem ev_cc418_3 : ev_b418_3.all (ev_okc "PathProverModel") = true := by decide +kernel
theorem ev_cc418 : ev_b418.all (ev_okc "PathProverModel") = true := (ev_all ev_cc418_0 (ev_all ev_cc418_1 (ev_all ev_cc418_2 ev_cc418_3)))
set_option maxRecDepth 100000 in
theorem ev_cc419 : ev_b419.all (ev_okc "PathProverModel") = true := by decide +kernel
set_option maxRecDepth 100000 in
theorem ev_cc420 : ev_b420.all (ev_okc "PathProverModel") = true := by decide +kernel
set_option maxRecDepth 100000 in
theorem ev_cc421 : ev_b421.all (ev_okc "PathProverModel") = true := by decide +kernel
set_option maxRecDepth 100000 in
theorem ev_cc422 : ev_b422.all (ev_okc "PathProverModel") = true := by decide +kernel
set_option maxRecDepth 100000 in
theorem ev_cc423 : ev_b423.all (ev_okc "PathProverModel") = true := by decide +kernel
set_option maxRecDepth 100000 in
theorem ev_cc424 : ev_b424.all (ev_okc "PathProverModel") = true := by decide +kernel
set_option maxRecDepth 100000 in
theorem ev_cc425 : ev_b425.all (ev_okc "PathProverModel") = true := by decide +kernel
set_option maxRecDepth 100000 in
theorem ev_cc426_0 : ev_b426_0.all (ev_okc "PathProverModel") = true := by decide +kernel
set_option maxRecDepth 100000 in
theorem ev_cc426_1 : ev_b426_1.all (ev_okc "PathProverModel") = true := by decide +kernel
set_option maxRecDepth 100000 in
theorem ev_cc426_2 : ev_b426_2.all (ev_okc "PathProverModel") = true := by decide +kernel
set_option maxRecDepth 100000 in
theorem ev_cc426_3 : ev_b426_3.all (ev_okc "PathProverModel") = true := by decide +kernel
theorem ev_cc426 : ev_b426.all (ev_okc "PathProverModel") = true := (ev_all ev_cc426_0 (ev_all ev_cc426_1 (ev_all ev_cc426_2 ev_cc426_3)))
set_option maxRecDepth 100000 in
theorem ev_cc427 : ev_b427.all (ev_okc "PathProverModel") = true := by decide +kernel
set_option maxRecDepth 100000 in
theorem ev_cc428_0 : ev_b428_0.all (ev_okc "PathProverModel") = true := by decide +kernel
set_option maxRecDepth 100000 in
theorem ev_cc428_1 : ev_b428_1.all (ev_okc "PathProverModel") = true := by decide +kernel
theorem ev_cc428 : ev_b428.all (ev_okc "PathProverModel") = true := (ev_all ev_cc428_0 ev_cc428_1)
set_option maxRecDepth 100000 in
theorem ev_cc429 : ev_b429.all (ev_okc "PathProverModel") = true := by decide +kernel
set_option maxRecDepth 100000 in
theorem ev_cc430_0 : ev_b430_0.all (ev_okc "PathProverModel") = true := by decide +kernel
set_option maxRecDepth 100000 in
theorem ev_cc430_1 : ev_b430_1.all (ev_okc "PathProverModel") = true := by decide +kernel
set_option maxRecDepth 100000 in
theorem ev_cc430_2 : ev_b430_2.all (ev_okc "PathProverModel") = true := by decide +kernel
theorem ev_cc430 : ev_b430.all (ev_okc "PathProverModel") = true := (ev_all ev_cc430_0 (ev_all ev_cc430_1 ev_cc430_2))
set_option maxRecDepth 100000 in
theorem ev_cc431 : ev_b431.all (ev_okc "PathProverModel") = true := by decide +kernel
set_option maxRecDepth 100000 in
theorem ev_cc432 : ev_b432.all (ev_okc "PathProverModel") = true := by decide +kernel
set_option maxRecDepth 100000 in
theorem ev_cc433_0 : ev_b433_0.all (ev_okc "PathProverModel") = true := by decide +kernel
set_option maxRecDepth 100000 in
theorem ev_cc433_1 : ev_b433_1.all (ev_okc "PathProverModel") = true := by decide +kernel
theorem ev_cc433 : ev_b433.all (ev_okc "PathProverModel") = true := (ev_all ev_cc433_0 ev_cc433_1)
set_option maxRecDepth 100000 in
theorem ev_cc434_0 : ev_b434_0.all (ev_okc "PathProverModel") = true := by decide +kernel
set_option maxRecDepth 100000 in
theorem ev_cc434_1 : ev_b434_1.all (ev_okc "PathProverModel") = true := by decide +kernel
set_option maxRecDepth 100000 in
theorem ev_cc434_2 : ev_b434_2.all (ev_okc "PathProverModel") = true := by decide +kernel
set_option maxRecDepth 100000 in
theorem ev_cc434_3 : ev_b434_3.all (ev_okc "PathProverModel") = true := by decide +kernel
theorem ev_cc434 : ev_b434.all (ev_okc "PathProverModel") = true := (ev_all ev_cc434_0 (ev_all ev_cc434_1 (ev_all ev_cc434_2 ev_cc434_3)))
set_option maxRecDepth 100000 in
theorem ev_cc435 : ev_b435.all (ev_okc "PathProverModel") = true := by decide +kernel
set_option maxRecDepth 100000 in
theorem ev_cc436 : ev_b436.all (ev_okc "PathProverModel") = true := by decide +kernel
set_option maxRecDepth 100000 in
theorem ev_cc437 : ev_b437.all (ev_okc "PathProverModel") = true := by decide +kernel
set_option maxRecDepth 100000 in
theorem ev_cc438 : ev_b438.all (ev_okc "PathProverModel") = true := by decide +kernel
set_option maxRecDepth 100000 in
theorem ev_cc439_0 : ev_b439_0.all (ev_okc "PathProverModel") = true := by decide +kernel
set_option maxRecDepth 100000 in
theorem ev_cc439_1 : ev_b439_1.all (ev_okc "PathProverModel") = true := by decide +kernel
set_option maxRecDepth 100000 in
theorem ev_cc439_2 : ev_b439_2.all (ev_okc "PathProverModel") = true := by decide +kernel
theorem ev_cc439 : ev_b439.all (ev_okc "PathProverModel") = true := (ev_all ev_cc439_0 (ev_all ev_cc439_1 ev_cc439_2))
set_option maxRecDepth 100000 in
theorem ev_cc440_0 : ev_b440_0.all (ev_okc "PathProverModel") = true := by decide +kernel
set_option maxRecDepth 100000 in
theorem ev_cc440_1 : ev_b440_1.all (ev_okc "PathProverModel") = true := by decide +kernel
set_option maxRecDepth 100000 in
theorem ev_cc440_2 : ev_b440_2.all (ev_okc "PathProverModel") = true := by decide +kernel
theorem ev_cc440 : ev_b440.all (ev_okc "PathProverModel") = true := (ev_all ev_cc440_0 (ev_all ev_cc440_1 ev_cc440_2))
set_option maxRecDepth 100000 in
theorem ev_cc441 : ev_b441.all (ev_okc "PathProverModel") = true := by decide +kernel
set_option maxRecDepth 100000 in
theorem ev_cc442 : ev_b442.all (ev_okc "PathProverModel") = true := by decide +kernel
set_option maxRecDepth 100000 in
theorem ev_cc443 : ev_b443.all (ev_okc "PathProverModel") = true := by decide +kernel
set_option maxRecDepth 100000 in
theorem ev_cc444 : ev_b444.all (ev_okc "PathProverModel") = true := by decide +kernel
set_option maxRecDepth 100000 in
theorem ev_cc445 : ev_b445.all (ev_okc "PathProverModel") = true := by decide +kernel
set_option maxRecDepth 100000 in
theorem ev_cc446_0 : ev_b446_0.all (ev_okc "PathProverModel") = true := by decide +kernel
set_option maxRecDepth 100000 in
theorem ev_cc446_1 : ev_b446_1.all (ev_okc "PathProverModel") = true := by decide +kernel
set_option maxRecDepth 100000 in
theorem ev_cc446_2 : ev_b446_2.all (ev_okc "PathProverModel") = true := by decide +kernel
set_option maxRecDepth 100000 in
theorem ev_cc446_3 : ev_b446_3.all (ev_okc "PathProverModel") = true := by decide +kernel
theorem ev_cc446 : ev_b446.all (ev_okc "PathProverModel") = true := (ev_all ev_cc446_0 (ev_all ev_cc446_1 (ev_all ev_cc446_2 ev_cc446_3)))
set_option maxRecDepth 100000 in
theorem ev_cc447_0 : ev_b447_0.all (ev_okc "PathProverModel") = true := by decide +kernel
set_option maxRecDepth 100000 in
theorem ev_cc447_1 : ev_b447_1.all (ev_okc "PathProverModel") = true := by decide +kernel
set_option maxRecDepth 100000 in
theorem ev_cc447_2 : ev_b447_2.all (ev_okc "PathProverModel") = true := by decide +kernel
set_option maxRecDepth 100000 in
theorem ev_cc447_3 : ev_b447_3.all (ev_okc "PathProverModel") = true := by decide +kernel
theorem ev_cc447 : ev_b447.all (ev_okc "PathProverModel") = true := (ev_all ev_cc447_0 (ev_all ev_cc447_1 (ev_all ev_cc447_2 ev_cc447_3)))
set_option maxRecDepth 100000 in
theorem ev_cc448 : ev_b448.all (ev_okc "PathProverModel") = true := by decide +kernel
set_option maxRecDepth 100000 in
theorem ev_cc449 : ev_b449.all (ev_okc "PathProverModel") = true := by decide +kernel
set_option maxRecDepth 100000 in
theorem ev_cc450 : ev_b450.all (ev_okc "PathProverModel") = true := by decide +kernel
set_option maxRecDepth 100000 in
theorem ev_cc451_0 : ev_b451_0.all (ev_okc "PathProverModel") = true := by decide +kernel
set_option maxRecDepth 100000 in
theorem ev_cc451_1 : ev_b451_1.all (ev_okc "PathProverModel") = true := by decide +kernel
theorem ev_cc451 : ev_b451.all (ev_okc "PathProverModel") = true := (ev_all ev_cc451_0 ev_cc451_1)
set_option maxRecDepth 100000 in
theorem ev_cc452 : ev_b452.all (ev_okc "PathProverModel") = true := by decide +kernel
set_option maxRecDepth 100000 in
theorem ev_cc453 : ev_b453.all (ev_okc "PathProverModel") = true := by decide +kernel
set_option maxRecDepth 100000 in
theorem ev_cc454 : ev_b454.all (ev_okc "PathProverModel") = true := by decide +kernel
set_option maxRecDepth 100000 in
theorem ev_cc455 : ev_b455.all (ev_okc "PathProverModel") = true := by decide +kernel
set_option maxRecDepth 100000 in
theorem ev_cc456_0 : ev_b456_0.all (ev_okc "PathProverModel") = true := by decide +kernel
set_option maxRecDepth 100000 in
theorem ev_cc456_1 : ev_b456_1.all (ev_okc "PathProverModel") = true := by decide +kernel
theorem ev_cc456 : ev_b456.all (ev_okc "PathProverModel") = true := (ev_all ev_cc456_0 ev_cc456_1)
set_option maxRecDepth 100000 in
theorem ev_cc457 : ev_b457.all (ev_okc "PathProverModel") = true := by decide +kernel
set_option maxRecDepth 100000 in
theorem ev_cc458_0 : ev_b458_0.all (ev_okc "PathProverModel") = true := by decide +kernel
set_option maxRecDepth 100000 in
theorem ev_cc458_1 : ev_b458_1.all (ev_okc "PathProverModel") = true := by decide +kernel
set_option maxRecDepth 100000 in
theorem ev_cc458_2 : ev_b458_2.all (ev_okc "PathProverModel") = true := by decide +kernel
set_option maxRecDepth 100000 in
theorem ev_cc458_3 : ev_b458_3.all (ev_okc "PathProverModel") = true := by decide +kernel
set_option maxRecDepth 100000 in
theorem ev_cc458_4 : ev_b458_4.all (ev_okc "PathProverModel") = true := by decide +kernel
set_option maxRecDepth 100000 in
theorem ev_cc458_5 : ev_b458_5.all (ev_okc "PathProverModel") = true := by decide +kernel
set_option maxRecDepth 100000 in
theorem ev_cc458_6 : ev_b458_6.all (ev_okc "PathProverModel") = true := by decide +kernel
set_option maxRecDepth 100000 in
theorem ev_cc458_7 : ev_b458_7.all (ev_okc "PathProverModel") = true := by decide +kernel
theorem ev_cc458 : ev_b458.all (ev_okc "PathProverModel") = true := (ev_all ev_cc458_0 (ev_all ev_cc458_1 (ev_all ev_cc458_2 (ev_all ev_cc458_3 (ev_all ev_cc458_4 (ev_all ev_cc458_5 (ev_all ev_cc458_6 ev_cc458_7)))))))
