/-! Printed by wip/whole/gen8.py: the methods' calls are words of the tables -/
set_option maxRecDepth 100000 in
theorem ev_cc459_0 : ev_b459_0.all (ev_okc "PathProverModel") = true := by decide +kernel
set_option maxRecDepth 100000 in
theorem ev_cc459_1 : ev_b459_1.all (ev_okc "PathProverModel") = true := by decide +kernel
theorem ev_cc459 : ev_b459.all (ev_okc "PathProverModel") = true := (ev_all ev_cc459_0 ev_cc459_1)
set_option maxRecDepth 100000 in
theorem ev_cc460_0 : ev_b460_0.all (ev_okc "PathProverModel") = true := by decide +kernel
set_option maxRecDepth 100000 in
theorem ev_cc460_1 : ev_b460_1.all (ev_okc "PathProverModel") = true := by decide +kernel
set_option maxRecDepth 100000 in
theorem ev_cc460_2 : ev_b460_2.all (ev_okc "PathProverModel") = true := by decide +kernel
set_option maxRecDepth 100000 in
theorem ev_cc460_3 : ev_b460_3.all (ev_okc "PathProverModel") = true := by decide +kernel
theorem ev_cc460 : ev_b460.all (ev_okc "PathProverModel") = true := (ev_all ev_cc460_0 (ev_all ev_cc460_1 (ev_all ev_cc460_2 ev_cc460_3)))
set_option maxRecDepth 100000 in
theorem ev_cc461_0 : ev_b461_0.all (ev_okc "PathProverModel") = true := by decide +kernel
set_option maxRecDepth 100000 in
theorem ev_cc461_1 : ev_b461_1.all (ev_okc "PathProverModel") = true := by decide +kernel
set_option maxRecDepth 100000 in
theorem ev_cc461_2 : ev_b461_2.all (ev_okc "PathProverModel") = true := by decide +kernel
set_option maxRecDepth 100000 in
theorem ev_cc461_3 : ev_b461_3.all (ev_okc "PathProverModel") = true := by decide +kernel
theorem ev_cc461 : ev_b461.all (ev_okc "PathProverModel") = true := (ev_all ev_cc461_0 (ev_all ev_cc461_1 (ev_all ev_cc461_2 ev_cc461_3)))
set_option maxRecDepth 100000 in
theorem ev_cc462_0 : ev_b462_0.all (ev_okc "PathProverModel") = true := by decide +kernel
set_option maxRecDepth 100000 in
theorem ev_cc462_1 : ev_b462_1.all (ev_okc "PathProverModel") = true := by decide +kernel
set_option maxRecDepth 100000 in
theorem ev_cc462_2 : ev_b462_2.all (ev_okc "PathProverModel") = true := by decide +kernel
theorem ev_cc462 : ev_b462.all (ev_okc "PathProverModel") = true := (ev_all ev_cc462_0 (ev_all ev_cc462_1 ev_cc462_2))
set_option maxRecDepth 100000 in
theorem ev_cc463_0 : ev_b463_0.all (ev_okc "PathProverModel") = true := by decide +kernel
set_option maxRecDepth 100000 in
theorem ev_cc463_1 : ev_b463_1.all (ev_okc "PathProverModel") = true := by decide +kernel
set_option maxRecDepth 100000 in
theorem ev_cc463_2 : ev_b463_2.all (ev_okc "PathProverModel") = true := by decide +kernel
set_option maxRecDepth 100000 in
theorem ev_cc463_3 : ev_b463_3.all (ev_okc "PathProverModel") = true := by decide +kernel
set_option maxRecDepth 100000 in
theorem ev_cc463_4 : ev_b463_4.all (ev_okc "PathProverModel") = true := by decide +kernel
set_option maxRecDepth 100000 in
theorem ev_cc463_5 : ev_b463_5.all (ev_okc "PathProverModel") = true := by decide +kernel
set_option maxRecDepth 100000 in
theorem ev_cc463_6 : ev_b463_6.all (ev_okc "PathProverModel") = true := by decide +kernel
set_option maxRecDepth 100000 in
theorem ev_cc463_7 : ev_b463_7.all (ev_okc "PathProverModel") = true := by decide +kernel
theorem ev_cc463 : ev_b463.all (ev_okc "PathProverModel") = true := (ev_all ev_cc463_0 (ev_all ev_cc463_1 (ev_all ev_cc463_2 (ev_all ev_cc463_3 (ev_all ev_cc463_4 (ev_all ev_cc463_5 (ev_all ev_cc463_6 ev_cc463_7)))))))
set_option maxRecDepth 100000 in
theorem ev_cc464_0 : ev_b464_0.all (ev_okc "PathProverModel") = true := by decide +kernel
set_option maxRecDepth 100000 in
theorem ev_cc464_1 : ev_b464_1.all (ev_okc "PathProverModel") = true := by decide +kernel
set_option maxRecDepth 100000 in
theorem ev_cc464_2 : ev_b464_2.all (ev_okc "PathProverModel") = true := by decide +kernel
theorem ev_cc464 : ev_b464.all (ev_okc "PathProverModel") = true := (ev_all ev_cc464_0 (ev_all ev_cc464_1 ev_cc464_2))
set_option maxRecDepth 100000 in
theorem ev_cc465_0 : ev_b465_0.all (ev_okc "PathProverModel") = true := by decide +kernel
set_option maxRecDepth 100000 in
theorem ev_cc465_1 : ev_b465_1.all (ev_okc "PathProverModel") = true := by decide +kernel
theorem ev_cc465 : ev_b465.all (ev_okc "PathProverModel") = true := (ev_all ev_cc465_0 ev_cc465_1)
set_option maxRecDepth 100000 in
theorem ev_cc466 : ev_b466.all (ev_okc "PathProverModel") = true := by decide +kernel
set_option maxRecDepth 100000 in
theorem ev_cc467_0 : ev_b467_0.all (ev_okc "PathProverModel") = true := by decide +kernel
set_option maxRecDepth 100000 in
theorem ev_cc467_1 : ev_b467_1.all (ev_okc "PathProverModel") = true := by decide +kernel
set_option maxRecDepth 100000 in
theorem ev_cc467_2 : ev_b467_2.all (ev_okc "PathProverModel") = true := by decide +kernel
set_option maxRecDepth 100000 in
theorem ev_cc467_3 : ev_b467_3.all (ev_okc "PathProverModel") = true := by decide +kernel
set_option maxRecDepth 100000 in
theorem ev_cc467_4 : ev_b467_4.all (ev_okc "PathProverModel") = true := by decide +kernel
set_option maxRecDepth 100000 in
theorem ev_cc467_5 : ev_b467_5.all (ev_okc "PathProverModel") = true := by decide +kernel
theorem ev_cc467 : ev_b467.all (ev_okc "PathProverModel") = true := (ev_all ev_cc467_0 (ev_all ev_cc467_1 (ev_all ev_cc467_2 (ev_all ev_cc467_3 (ev_all ev_cc467_4 ev_cc467_5)))))
set_option maxRecDepth 100000 in
theorem ev_cc468 : ev_b468.all (ev_okc "PathProverModel") = true := by decide +kernel
set_option maxRecDepth 100000 in
theorem ev_cc469 : ev_b469.all (ev_okc "PathProverModel") = true := by decide +kernel
set_option maxRecDepth 100000 in
theorem ev_cc470_0 : ev_b470_0.all (ev_okc "PathProverModel") = true := by decide +kernel
set_option maxRecDepth 100000 in
theorem ev_cc470_1 : ev_b470_1.all (ev_okc "PathProverModel") = true := by decide +kernel
set_option maxRecDepth 100000 in
theorem ev_cc470_2 : ev_b470_2.all (ev_okc "PathProverModel") = true := by decide +kernel
theorem ev_cc470 : ev_b470.all (ev_okc "PathProverModel") = true := (ev_all ev_cc470_0 (ev_all ev_cc470_1 ev_cc470_2))
set_option maxRecDepth 100000 in
theorem ev_cc471_0 : ev_b471_0.all (ev_okc "PathProverModel") = true := by decide +kernel
set_option maxRecDepth 100000 in
theorem ev_cc471_1 : ev_b471_1.all (ev_okc "PathProverModel") = true := by decide +kernel
theorem ev_cc471 : ev_b471.all (ev_okc "PathProverModel") = true := (ev_all ev_cc471_0 ev_cc471_1)
set_option maxRecDepth 100000 in
theorem ev_cc472_0 : ev_b472_0.all (ev_okc "PathProverModel") = true := by decide +kernel
set_option maxRecDepth 100000 in
theorem ev_cc472_1 : ev_b472_1.all (ev_okc "PathProverModel") = true := by decide +kernel
theorem ev_cc472 : ev_b472.all (ev_okc "PathProverModel") = true := (ev_all ev_cc472_0 ev_cc472_1)
set_option maxRecDepth 100000 in
theorem ev_cc473_0 : ev_b473_0.all (ev_okc "PathProverModel") = true := by decide +kernel
set_option maxRecDepth 100000 in
theorem ev_cc473_1 : ev_b473_1.all (ev_okc "PathProverModel") = true := by decide +kernel
set_option maxRecDepth 100000 in
theorem ev_cc473_2 : ev_b473_2.all (ev_okc "PathProverModel") = true := by decide +kernel
theorem ev_cc473 : ev_b473.all (ev_okc "PathProverModel") = true := (ev_all ev_cc473_0 (ev_all ev_cc473_1 ev_cc473_2))
set_option maxRecDepth 100000 in
theorem ev_cc474_0 : ev_b474_0.all (ev_okc "PathProverModel") = true := by decide +kernel
set_option maxRecDepth 100000 in
theorem ev_cc474_1 : ev_b474_1.all (ev_okc "PathProverModel") = true := by decide +kernel
theorem ev_cc474 : ev_b474.all (ev_okc "PathProverModel") = true := (ev_all ev_cc474_0 ev_cc474_1)
set_option maxRecDepth 100000 in
theorem ev_cc475_0 : ev_b475_0.all (ev_okc "PathProverModel") = true := by decide +kernel
set_option maxRecDepth 100000 in
theorem ev_cc475_1 : ev_b475_1.all (ev_okc "PathProverModel") = true := by decide +kernel
set_option maxRecDepth 100000 in
theorem ev_cc475_2 : ev_b475_2.all (ev_okc "PathProverModel") = true := by decide +kernel
set_option maxRecDepth 100000 in
theorem ev_cc475_3 : ev_b475_3.all (ev_okc "PathProverModel") = true := by decide +kernel
theorem ev_cc475 : ev_b475.all (ev_okc "PathProverModel") = true := (ev_all ev_cc475_0 (ev_all ev_cc475_1 (ev_all ev_cc475_2 ev_cc475_3)))
set_option maxRecDepth 100000 in
theorem ev_cc476 : ev_b476.all (ev_okc "PathProverModel") = true := by decide +kernel
set_option maxRecDepth 100000 in
theorem ev_cc477 : ev_b477.all (ev_okc "PathProverModel") = true := by decide +kernel
set_option maxRecDepth 100000 in
theorem ev_cc478_0 : ev_b478_0.all (ev_okc "PathProverModel") = true := by decide +kernel
set_option maxRecDepth 100000 in
theorem ev_cc478_1 : ev_b478_1.all (ev_okc "PathProverModel") = true := by decide +kernel
theorem ev_cc478 : ev_b478.all (ev_okc "PathProverModel") = true := (ev_all ev_cc478_0 ev_cc478_1)
set_option maxRecDepth 100000 in
theorem ev_cc479_0 : ev_b479_0.all (ev_okc "PathProverModel") = true := by decide +kernel
set_option maxRecDepth 100000 in
theorem ev_cc479_1 : ev_b479_1.all (ev_okc "PathProverModel") = true := by decide +kernel
theorem ev_cc479 : ev_b479.all (ev_okc "PathProverModel") = true := (ev_all ev_cc479_0 ev_cc479_1)
set_option maxRecDepth 100000 in
theorem ev_cc480 : ev_b480.all (ev_okc "PathProverModel") = true := by decide +kernel
set_option maxRecDepth 100000 in
theorem ev_cc481 : ev_b481.all (ev_okc "PathProverModel") = true := by decide +kernel
set_option maxRecDepth 100000 in
theorem ev_cc482_0 : ev_b482_0.all (ev_okc "PathProverModel") = true := by decide +kernel
set_option maxRecDepth 100000 in
theorem ev_cc482_1 : ev_b482_1.all (ev_okc "PathProverModel") = true := by decide +kernel
set_option maxRecDepth 100000 in
theorem ev_cc482_2 : ev_b482_2.all (ev_okc "PathProverModel") = true := by decide +kernel
theorem ev_cc482 : ev_b482.all (ev_okc "PathProverModel") = true := (ev_all ev_cc482_0 (ev_all ev_cc482_1 ev_cc482_2))
set_option maxRecDepth 100000 in
theorem ev_cc483_0 : ev_b483_0.all (ev_okc "PathProverModel") = true := by decide +kernel
set_option maxRecDepth 100000 in
theorem ev_cc483_1 : ev_b483_1.all (ev_okc "PathProverModel") = true := by decide +kernel
set_option maxRecDepth 100000 in
theorem ev_cc483_2 : ev_b483_2.all (ev_okc "PathProverModel") = true := by decide +kernel
theorem ev_cc483 : ev_b483.all (ev_okc "PathProverModel") = true := (ev_all ev_cc483_0 (ev_all ev_cc483_1 ev_cc483_2))
set_option maxRecDepth 100000 in
theorem ev_cc484_0 : ev_b484_0.all (ev_okc "PathProverModel") = true := by decide +kernel
set_option maxRecDepth 100000 in
theorem ev_cc484_1 : ev_b484_1.all (ev_okc "PathProverModel") = true := by decide +kernel
set_option maxRecDepth 100000 in
theorem ev_cc484_2 : ev_b484_2.all (ev_okc "PathProverModel") = true := by decide +kernel
theorem ev_cc484 : ev_b484.all (ev_okc "PathProverModel") = true := (ev_all ev_cc484_0 (ev_all ev_cc484_1 ev_cc484_2))
set_option maxRecDepth 100000 in
theorem ev_cc485_0 : ev_b485_0.all (ev_okc "PathProverModel") = true := by decide +kernel
set_option maxRecDepth 100000 in
theorem ev_cc485_1 : ev_b485_1.all (ev_okc "PathProverModel") = true := by decide +kernel
set_option maxRecDepth 100000 in
theorem ev_cc485_2 : ev_b485_2.all (ev_okc "PathProverModel") = true := by decide +kernel
theorem ev_cc485 : ev_b485.all (ev_okc "PathProverModel") = true := (ev_all ev_cc485_0 (ev_all ev_cc485_1 ev_cc485_2))
set_option maxRecDepth 100000 in
theorem ev_cc486 : ev_b486.all (ev_okc "PathProverModel") = true := by decide +kernel
set_option maxRecDepth 100000 in
theorem ev_cc487 : ev_b487.all (ev_okc "PathProverModel") = true := by decide +kernel
set_option maxRecDepth 100000 in
theorem ev_cc488 : ev_b488.all (ev_okc "PathProverModel") = true := by decide +kernel
set_option maxRecDepth 100000 in
theorem ev_cc489 : ev_b489.all (ev_okc "PathProverModel") = true := by decide +kernel
set_option maxRecDepth 100000 in
theorem ev_cc490_0 : ev_b490_0.all (ev_okc "PathProverModel") = true := by decide +kernel
set_option maxRecDepth 100000 in
theorem ev_cc490_1 : ev_b490_1.all (ev_okc "PathProverModel") = true := by decide +kernel
theorem ev_cc490 : ev_b490.all (ev_okc "PathProverModel") = true := (ev_all ev_cc490_0 ev_cc490_1)
set_option maxRecDepth 100000 in
theorem ev_cc491 : ev_b491.all (ev_okc "PathProverModel") = true := by decide +kernel
set_option maxRecDepth 100000 in
theorem ev_cc492 : ev_b492.all (ev_okc "PathProverModel") = true := by decide +kernel
set_option maxRecDepth 100000 in
theorem ev_cc493_0 : ev_b493_0.all (ev_okc "PathProverModel") = true := by decide +kernel
set_option maxRecDepth 100000 in
theorem ev_cc493_1 : ev_b493_1.all (ev_okc "PathProverModel") = true := by decide +kernel
theorem ev_cc493 : ev_b493.all (ev_okc "PathProverModel") = true := (ev_all ev_cc493_0 ev_cc493_1)
set_option maxRecDepth 100000 in
theorem ev_cc494 : ev_b494.all (ev_okc "PathProverModel") = true := by decide +kernel
set_option maxRecDepth 100000 in
theorem ev_cc495_0 : ev_b495_0.all (ev_okc "PathProverModel") = true := by decide +kernel
set_option maxRecDepth 100000 in
theorem ev_cc495_1 : ev_b495_1.all (ev_okc "PathProverModel") = true := by decide +kernel
set_option maxRecDepth 100000 in
theorem ev_cc495_2 : ev_b495_2.all (ev_okc "PathProverModel") = true := by decide +kernel
theorem ev_cc495 : ev_b495.all (ev_okc "PathProverModel") = true := (ev_all ev_cc495_0 (ev_all ev_cc495_1 ev_cc495_2))
set_option maxRecDepth 100000 in
theorem ev_cc496 : ev_b496.all (ev_okc "PathProverModel") = true := by decide +kernel
set_option maxRecDepth 100000 in
theorem ev_cc497_0 : ev_b497_0.all (ev_okc "PathProverModel") = true := by decide +kernel
set_option maxRecDepth 100000 in
theorem ev_cc497_1 : ev_b497_1.all (ev_okc "PathProverModel") = true := by decide +kernel
set_option maxRecDepth 100000 in
theorem ev_cc497_2 : ev_b497_2.all (ev_okc "PathProverModel") = true := by decide +kernel
theorem ev_cc497 : ev_b497.all (ev_okc "PathProverModel") = true := (ev_all ev_cc497_0 (ev_all ev_cc497_1 ev_cc497_2))
set_option maxRecDepth 100000 in
theorem ev_cc498_0 : ev_b498_0.all (ev_okc "PathProverModel") = true := by decide +kernel
set_option maxRecDepth 100000 in
theorem ev_cc498_1 : ev_b498_1.all (ev_okc "PathProverModel") = true := by decide +kernel
theorem ev_cc498 : ev_b498.all (ev_okc "PathProverModel") = true := (ev_all ev_cc498_0 ev_cc498_1)
set_option maxRecDepth 100000 in
theorem ev_cc499_0 : ev_b499_0.all (ev_okc "PathProverModel") = true := by decide +kernel
set_option maxRecDepth 100000 in
theorem ev_cc499_1 : ev_b499_1.all (ev_okc "PathProverModel") = true := by decide +kernel
theorem ev_cc499 : ev_b499.all (ev_okc "PathProverModel") = true := (ev_all ev_cc499_0 ev_cc499_1)
set_option maxRecDepth 100000 in
theorem ev_cc500_0 : ev_b500_0.all (ev_okc "PathProverModel") = true := by decide +kernel
set_option maxRecDepth 100000 in
theorem ev_cc500_1 : ev_b500_1.all (ev_okc "PathProverModel") = true := by decide +kernel
set_option maxRecDepth 100000 in
theorem ev_cc500_2 : ev_b500_2.all (ev_okc "PathProverModel") = true := by decide +kernel
theorem ev_cc500 : ev_b500.all (ev_okc "PathProverModel") = true := (ev_all ev_cc500_0 (ev_all ev_cc500_1 ev_cc500_2))
set_option maxRecDepth 100000 in
theorem ev_cc501_0 : ev_b501_0.all (ev_okc "PathProverModel") = true := by decide +kernel
set_option maxRecDepth 100000 in
theorem ev_cc501_1 : ev_b501_1.all (ev_okc "PathProverModel") = true := by decide +kernel
theorem ev_cc501 : ev_b501.all (ev_okc "PathProverModel") = true := (ev_all ev_cc501_0 ev_cc501_1)
