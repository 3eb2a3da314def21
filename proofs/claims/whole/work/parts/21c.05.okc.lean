/-! Printed by wip/whole/gen8.py: the methods' calls are words of the tables -/
set_option maxRecDepth 100000 in
theorem ev_cc289_0 : ev_b289_0.all (ev_okc "PathProver$Relation") = true := by decide +kernel
set_option maxRecDepth 100000 in
theorem ev_cc289_1 : ev_b289_1.all (ev_okc "PathProver$Relation") = true := by decide +kernel
set_option maxRecDepth 100000 in
theorem ev_cc289_2 : ev_b289_2.all (ev_okc "PathProver$Relation") = true := by decide +kernel
theorem ev_cc289 : ev_b289.all (ev_okc "PathProver$Relation") = true := (ev_all ev_cc289_0 (ev_all ev_cc289_1 ev_cc289_2))
set_option maxRecDepth 100000 in
theorem ev_cc290_0 : ev_b290_0.all (ev_okc "PathProver$Relation") = true := by decide +kernel
set_option maxRecDepth 100000 in
theorem ev_cc290_1 : ev_b290_1.all (ev_okc "PathProver$Relation") = true := by decide +kernel
set_option maxRecDepth 100000 in
theorem ev_cc290_2 : ev_b290_2.all (ev_okc "PathProver$Relation") = true := by decide +kernel
theorem ev_cc290 : ev_b290.all (ev_okc "PathProver$Relation") = true := (ev_all ev_cc290_0 (ev_all ev_cc290_1 ev_cc290_2))
set_option maxRecDepth 100000 in
theorem ev_cc291_0 : ev_b291_0.all (ev_okc "PathProver$Relation") = true := by decide +kernel
set_option maxRecDepth 100000 in
theorem ev_cc291_1 : ev_b291_1.all (ev_okc "PathProver$Relation") = true := by decide +kernel
set_option maxRecDepth 100000 in
theorem ev_cc291_2 : ev_b291_2.all (ev_okc "PathProver$Relation") = true := by decide +kernel
set_option maxRecDepth 100000 in
theorem ev_cc291_3 : ev_b291_3.all (ev_okc "PathProver$Relation") = true := by decide +kernel
theorem ev_cc291 : ev_b291.all (ev_okc "PathProver$Relation") = true := (ev_all ev_cc291_0 (ev_all ev_cc291_1 (ev_all ev_cc291_2 ev_cc291_3)))
set_option maxRecDepth 100000 in
theorem ev_cc292_0 : ev_b292_0.all (ev_okc "PathProver$Relation") = true := by decide +kernel
set_option maxRecDepth 100000 in
theorem ev_cc292_1 : ev_b292_1.all (ev_okc "PathProver$Relation") = true := by decide +kernel
set_option maxRecDepth 100000 in
theorem ev_cc292_2 : ev_b292_2.all (ev_okc "PathProver$Relation") = true := by decide +kernel
set_option maxRecDepth 100000 in
theorem ev_cc292_3 : ev_b292_3.all (ev_okc "PathProver$Relation") = true := by decide +kernel
set_option maxRecDepth 100000 in
theorem ev_cc292_4 : ev_b292_4.all (ev_okc "PathProver$Relation") = true := by decide +kernel
theorem ev_cc292 : ev_b292.all (ev_okc "PathProver$Relation") = true := (ev_all ev_cc292_0 (ev_all ev_cc292_1 (ev_all ev_cc292_2 (ev_all ev_cc292_3 ev_cc292_4))))
set_option maxRecDepth 100000 in
theorem ev_cc293_0 : ev_b293_0.all (ev_okc "PathProver$Relation") = true := by decide +kernel
set_option maxRecDepth 100000 in
theorem ev_cc293_1 : ev_b293_1.all (ev_okc "PathProver$Relation") = true := by decide +kernel
set_option maxRecDepth 100000 in
theorem ev_cc293_2 : ev_b293_2.all (ev_okc "PathProver$Relation") = true := by decide +kernel
set_option maxRecDepth 100000 in
theorem ev_cc293_3 : ev_b293_3.all (ev_okc "PathProver$Relation") = true := by decide +kernel
theorem ev_cc293 : ev_b293.all (ev_okc "PathProver$Relation") = true := (ev_all ev_cc293_0 (ev_all ev_cc293_1 (ev_all ev_cc293_2 ev_cc293_3)))
set_option maxRecDepth 100000 in
theorem ev_cc294_0 : ev_b294_0.all (ev_okc "PathProver$Relation") = true := by decide +kernel
set_option maxRecDepth 100000 in
theorem ev_cc294_1 : ev_b294_1.all (ev_okc "PathProver$Relation") = true := by decide +kernel
theorem ev_cc294 : ev_b294.all (ev_okc "PathProver$Relation") = true := (ev_all ev_cc294_0 ev_cc294_1)
set_option maxRecDepth 100000 in
theorem ev_cc295 : ev_b295.all (ev_okc "PathProver$Relation") = true := by decide +kernel
set_option maxRecDepth 100000 in
theorem ev_cc296 : ev_b296.all (ev_okc "PathProver$Relation") = true := by decide +kernel
set_option maxRecDepth 100000 in
theorem ev_cc297_0 : ev_b297_0.all (ev_okc "PathProver$Relation") = true := by decide +kernel
set_option maxRecDepth 100000 in
theorem ev_cc297_1 : ev_b297_1.all (ev_okc "PathProver$Relation") = true := by decide +kernel
set_option maxRecDepth 100000 in
theorem ev_cc297_2 : ev_b297_2.all (ev_okc "PathProver$Relation") = true := by decide +kernel
set_option maxRecDepth 100000 in
theorem ev_cc297_3 : ev_b297_3.all (ev_okc "PathProver$Relation") = true := by decide +kernel
theorem ev_cc297 : ev_b297.all (ev_okc "PathProver$Relation") = true := (ev_all ev_cc297_0 (ev_all ev_cc297_1 (ev_all ev_cc297_2 ev_cc297_3)))
set_option maxRecDepth 100000 in
theorem ev_cc298_0 : ev_b298_0.all (ev_okc "PathProver$Relation") = true := by decide +kernel
set_option maxRecDepth 100000 in
theorem ev_cc298_1 : ev_b298_1.all (ev_okc "PathProver$Relation") = true := by decide +kernel
set_option maxRecDepth 100000 in
theorem ev_cc298_2 : ev_b298_2.all (ev_okc "PathProver$Relation") = true := by decide +kernel
set_option maxRecDepth 100000 in
theorem ev_cc298_3 : ev_b298_3.all (ev_okc "PathProver$Relation") = true := by decide +kernel
theorem ev_cc298 : ev_b298.all (ev_okc "PathProver$Relation") = true := (ev_all ev_cc298_0 (ev_all ev_cc298_1 (ev_all ev_cc298_2 ev_cc298_3)))
set_option maxRecDepth 100000 in
theorem ev_cc299_0 : ev_b299_0.all (ev_okc "PathProver$Relation") = true := by decide +kernel
set_option maxRecDepth 100000 in
theorem ev_cc299_1 : ev_b299_1.all (ev_okc "PathProver$Relation") = true := by decide +kernel
theorem ev_cc299 : ev_b299.all (ev_okc "PathProver$Relation") = true := (ev_all ev_cc299_0 ev_cc299_1)
set_option maxRecDepth 100000 in
theorem ev_cc300 : ev_b300.all (ev_okc "PathProver$Relation") = true := by decide +kernel
set_option maxRecDepth 100000 in
theorem ev_cc301_0 : ev_b301_0.all (ev_okc "PathProver$Relation") = true := by decide +kernel
set_option maxRecDepth 100000 in
theorem ev_cc301_1 : ev_b301_1.all (ev_okc "PathProver$Relation") = true := by decide +kernel
theorem ev_cc301 : ev_b301.all (ev_okc "PathProver$Relation") = true := (ev_all ev_cc301_0 ev_cc301_1)
set_option maxRecDepth 100000 in
theorem ev_cc302_0 : ev_b302_0.all (ev_okc "PathProver$Relation") = true := by decide +kernel
set_option maxRecDepth 100000 in
theorem ev_cc302_1 : ev_b302_1.all (ev_okc "PathProver$Relation") = true := by decide +kernel
set_option maxRecDepth 100000 in
theorem ev_cc302_2 : ev_b302_2.all (ev_okc "PathProver$Relation") = true := by decide +kernel
theorem ev_cc302 : ev_b302.all (ev_okc "PathProver$Relation") = true := (ev_all ev_cc302_0 (ev_all ev_cc302_1 ev_cc302_2))
set_option maxRecDepth 100000 in
theorem ev_cc303 : ev_b303.all (ev_okc "PathProver$Relation") = true := by decide +kernel
set_option maxRecDepth 100000 in
theorem ev_cc304 : ev_b304.all (ev_okc "PathProver$Relation") = true := by decide +kernel
set_option maxRecDepth 100000 in
theorem ev_cc305_0 : ev_b305_0.all (ev_okc "PathProver$Relation") = true := by decide +kernel
set_option maxRecDepth 100000 in
theorem ev_cc305_1 : ev_b305_1.all (ev_okc "PathProver$Relation") = true := by decide +kernel
set_option maxRecDepth 100000 in
theorem ev_cc305_2 : ev_b305_2.all (ev_okc "PathProver$Relation") = true := by decide +kernel
theorem ev_cc305 : ev_b305.all (ev_okc "PathProver$Relation") = true := (ev_all ev_cc305_0 (ev_all ev_cc305_1 ev_cc305_2))
set_option maxRecDepth 100000 in
theorem ev_cc306 : ev_b306.all (ev_okc "PathProver$Relation") = true := by decide +kernel
set_option maxRecDepth 100000 in
theorem ev_cc307_0 : ev_b307_0.all (ev_okc "PathProver$Relation") = true := by decide +kernel
set_option maxRecDepth 100000 in
theorem ev_cc307_1 : ev_b307_1.all (ev_okc "PathProver$Relation") = true := by decide +kernel
set_option maxRecDepth 100000 in
theorem ev_cc307_2 : ev_b307_2.all (ev_okc "PathProver$Relation") = true := by decide +kernel
theorem ev_cc307 : ev_b307.all (ev_okc "PathProver$Relation") = true := (ev_all ev_cc307_0 (ev_all ev_cc307_1 ev_cc307_2))
set_option maxRecDepth 100000 in
theorem ev_cc308 : ev_b308.all (ev_okc "PathProver$Relation") = true := by decide +kernel
set_option maxRecDepth 100000 in
theorem ev_cc309 : ev_b309.all (ev_okc "PathProver$Graph") = true := by decide +kernel
set_option maxRecDepth 100000 in
theorem ev_cc310 : ev_b310.all (ev_okc "PathProver$Graph") = true := by decide +kernel
set_option maxRecDepth 100000 in
theorem ev_cc311 : ev_b311.all (ev_okc "PathProver$Graph") = true := by decide +kernel
set_option maxRecDepth 100000 in
theorem ev_cc312_0 : ev_b312_0.all (ev_okc "PathProver$Graph") = true := by decide +kernel
set_option maxRecDepth 100000 in
theorem ev_cc312_1 : ev_b312_1.all (ev_okc "PathProver$Graph") = true := by decide +kernel
theorem ev_cc312 : ev_b312.all (ev_okc "PathProver$Graph") = true := (ev_all ev_cc312_0 ev_cc312_1)
set_option maxRecDepth 100000 in
theorem ev_cc313 : ev_b313.all (ev_okc "PathProver$Graph") = true := by decide +kernel
set_option maxRecDepth 100000 in
theorem ev_cc314_0 : ev_b314_0.all (ev_okc "PathProver$Graph") = true := by decide +kernel
set_option maxRecDepth 100000 in
theorem ev_cc314_1 : ev_b314_1.all (ev_okc "PathProver$Graph") = true := by decide +kernel
theorem ev_cc314 : ev_b314.all (ev_okc "PathProver$Graph") = true := (ev_all ev_cc314_0 ev_cc314_1)
set_option maxRecDepth 100000 in
theorem ev_cc315 : ev_b315.all (ev_okc "PathProver$Graph") = true := by decide +kernel
set_option maxRecDepth 100000 in
theorem ev_cc316_0 : ev_b316_0.all (ev_okc "PathProver$Graph") = true := by decide +kernel
set_option maxRecDepth 100000 in
theorem ev_cc316_1 : ev_b316_1.all (ev_okc "PathProver$Graph") = true := by decide +kernel
set_option maxRecDepth 100000 in
theorem ev_cc316_2 : ev_b316_2.all (ev_okc "PathProver$Graph") = true := by decide +kernel
theorem ev_cc316 : ev_b316.all (ev_okc "PathProver$Graph") = true := (ev_all ev_cc316_0 (ev_all ev_cc316_1 ev_cc316_2))
set_option maxRecDepth 100000 in
theorem ev_cc317 : ev_b317.all (ev_okc "PathProver$Graph") = true := by decide +kernel
set_option maxRecDepth 100000 in
theorem ev_cc318 : ev_b318.all (ev_okc "PathProver$Graph") = true := by decide +kernel
set_option maxRecDepth 100000 in
theorem ev_cc319 : ev_b319.all (ev_okc "PathProver$Graph") = true := by decide +kernel
set_option maxRecDepth 100000 in
theorem ev_cc320 : ev_b320.all (ev_okc "PathProver$Graph") = true := by decide +kernel
set_option maxRecDepth 100000 in
theorem ev_cc321 : ev_b321.all (ev_okc "PathProver$Graph") = true := by decide +kernel
set_option maxRecDepth 100000 in
theorem ev_cc322_0 : ev_b322_0.all (ev_okc "PathProver$Graph") = true := by decide +kernel
set_option maxRecDepth 100000 in
theorem ev_cc322_1 : ev_b322_1.all (ev_okc "PathProver$Graph") = true := by decide +kernel
theorem ev_cc322 : ev_b322.all (ev_okc "PathProver$Graph") = true := (ev_all ev_cc322_0 ev_cc322_1)
set_option maxRecDepth 100000 in
theorem ev_cc323_0 : ev_b323_0.all (ev_okc "PathProver$Graph") = true := by decide +kernel
set_option maxRecDepth 100000 in
theorem ev_cc323_1 : ev_b323_1.all (ev_okc "PathProver$Graph") = true := by decide +kernel
set_option maxRecDepth 100000 in
theorem ev_cc323_2 : ev_b323_2.all (ev_okc "PathProver$Graph") = true := by decide +kernel
theorem ev_cc323 : ev_b323.all (ev_okc "PathProver$Graph") = true := (ev_all ev_cc323_0 (ev_all ev_cc323_1 ev_cc323_2))
set_option maxRecDepth 100000 in
theorem ev_cc324_0 : ev_b324_0.all (ev_okc "PathProver$Graph") = true := by decide +kernel
set_option maxRecDepth 100000 in
theorem ev_cc324_1 : ev_b324_1.all (ev_okc "PathProver$Graph") = true := by decide +kernel
theorem ev_cc324 : ev_b324.all (ev_okc "PathProver$Graph") = true := (ev_all ev_cc324_0 ev_cc324_1)
set_option maxRecDepth 100000 in
theorem ev_cc325_0 : ev_b325_0.all (ev_okc "PathProver$Graph") = true := by decide +kernel
set_option maxRecDepth 100000 in
theorem ev_cc325_1 : ev_b325_1.all (ev_okc "PathProver$Graph") = true := by decide +kernel
set_option maxRecDepth 100000 in
theorem ev_cc325_2 : ev_b325_2.all (ev_okc "PathProver$Graph") = true := by decide +kernel
set_option maxRecDepth 100000 in
theorem ev_cc325_3 : ev_b325_3.all (ev_okc "PathProver$Graph") = true := by decide +kernel
theorem ev_cc325 : ev_b325.all (ev_okc "PathProver$Graph") = true := (ev_all ev_cc325_0 (ev_all ev_cc325_1 (ev_all ev_cc325_2 ev_cc325_3)))
set_option maxRecDepth 100000 in
theorem ev_cc326_0 : ev_b326_0.all (ev_okc "PathProver$Graph") = true := by decide +kernel
set_option maxRecDepth 100000 in
theorem ev_cc326_1 : ev_b326_1.all (ev_okc "PathProver$Graph") = true := by decide +kernel
theorem ev_cc326 : ev_b326.all (ev_okc "PathProver$Graph") = true := (ev_all ev_cc326_0 ev_cc326_1)
set_option maxRecDepth 100000 in
theorem ev_cc327_0 : ev_b327_0.all (ev_okc "PathProver$Graph") = true := by decide +kernel
set_option maxRecDepth 100000 in
theorem ev_cc327_1 : ev_b327_1.all (ev_okc "PathProver$Graph") = true := by decide +kernel
set_option maxRecDepth 100000 in
theorem ev_cc327_2 : ev_b327_2.all (ev_okc "PathProver$Graph") = true := by decide +kernel
set_option maxRecDepth 100000 in
theorem ev_cc327_3 : ev_b327_3.all (ev_okc "PathProver$Graph") = true := by decide +kernel
set_option maxRecDepth 100000 in
theorem ev_cc327_4 : ev_b327_4.all (ev_okc "PathProver$Graph") = true := by decide +kernel
theorem ev_cc327 : ev_b327.all (ev_okc "PathProver$Graph") = true := (ev_all ev_cc327_0 (ev_all ev_cc327_1 (ev_all ev_cc327_2 (ev_all ev_cc327_3 ev_cc327_4))))
set_option maxRecDepth 100000 in
theorem ev_cc328_0 : ev_b328_0.all (ev_okc "PathProver$Graph") = true := by decide +kernel
set_option maxRecDepth 100000 in
theorem ev_cc328_1 : ev_b328_1.all (ev_okc "PathProver$Graph") = true := by decide +kernel
set_option maxRecDepth 100000 in
theorem ev_cc328_2 : ev_b328_2.all (ev_okc "PathProver$Graph") = true := by decide +kernel
theorem ev_cc328 : ev_b328.all (ev_okc "PathProver$Graph") = true := (ev_all ev_cc328_0 (ev_all ev_cc328_1 ev_cc328_2))
set_option maxRecDepth 100000 in
theorem ev_cc329_0 : ev_b329_0.all (ev_okc "PathProver$Graph") = true := by decide +kernel
set_option maxRecDepth 100000 in
theorem ev_cc329_1 : ev_b329_1.all (ev_okc "PathProver$Graph") = true := by decide +kernel
set_option maxRecDepth 100000 in
theorem ev_cc329_2 : ev_b329_2.all (ev_okc "PathProver$Graph") = true := by decide +kernel
set_option maxRecDepth 100000 in
theorem ev_cc329_3 : ev_b329_3.all (ev_okc "PathProver$Graph") = true := by decide +kernel
theorem ev_cc329 : ev_b329.all (ev_okc "PathProver$Graph") = true := (ev_all ev_cc329_0 (ev_all ev_cc329_1 (ev_all ev_cc329_2 ev_cc329_3)))
set_option maxRecDepth 100000 in
theorem ev_cc330_0 : ev_b330_0.all (ev_okc "PathProver$Graph") = true := by decide +kernel
set_option maxRecDepth 100000 in
theorem ev_cc330_1 : ev_b330_1.all (ev_okc "PathProver$Graph") = true := by decide +kernel
theorem ev_cc330 : ev_b330.all (ev_okc "PathProver$Graph") = true := (ev_all ev_cc330_0 ev_cc330_1)
set_option maxRecDepth 100000 in
theorem ev_cc331 : ev_b331.all (ev_okc "PathProver$Graph") = true := by decide +kernel
set_option maxRecDepth 100000 in
theorem ev_cc332_0 : ev_b332_0.all (ev_okc "PathProver$Graph") = true := by decide +kernel
set_option maxRecDepth 100000 in
theorem ev_cc332_1 : ev_b332_1.all (ev_okc "PathProver$Graph") = true := by decide +kernel
set_option maxRecDepth 100000 in
theorem ev_cc332_2 : ev_b332_2.all (ev_okc "PathProver$Graph") = true := by decide +kernel
theorem ev_cc332 : ev_b332.all (ev_okc "PathProver$Graph") = true := (ev_all ev_cc332_0 (ev_all ev_cc332_1 ev_cc332_2))
set_option maxRecDepth 100000 in
theorem ev_cc333_0 : ev_b333_0.all (ev_okc "PathProver$Graph") = true := by decide +kernel
set_option maxRecDepth 100000 in
theorem ev_cc333_1 : ev_b333_1.all (ev_okc "PathProver$Graph") = true := by decide +kernel
theorem ev_cc333 : ev_b333.all (ev_okc "PathProver$Graph") = true := (ev_all ev_cc333_0 ev_cc333_1)
set_option maxRecDepth 100000 in
theorem ev_cc334_0 : ev_b334_0.all (ev_okc "PathProver$Graph") = true := by decide +kernel
set_option maxRecDepth 100000 in
theorem ev_cc334_1 : ev_b334_1.all (ev_okc "PathProver$Graph") = true := by decide +kernel
theorem ev_cc334 : ev_b334.all (ev_okc "PathProver$Graph") = true := (ev_all ev_cc334_0 ev_cc334_1)
