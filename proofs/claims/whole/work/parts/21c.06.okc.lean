/-! Printed by wip/whole/gen8.py: the methods' calls are words of the tables -/
set_option maxRecDepth 100000 in
theorem ev_cc335 : ev_b335.all (ev_okc "PathProver$Graph") = true := by decide +kernel
set_option maxRecDepth 100000 in
theorem ev_cc336_0 : ev_b336_0.all (ev_okc "PathProver$Graph") = true := by decide +kernel
set_option maxRecDepth 100000 in
theorem ev_cc336_1 : ev_b336_1.all (ev_okc "PathProver$Graph") = true := by decide +kernel
theorem ev_cc336 : ev_b336.all (ev_okc "PathProver$Graph") = true := (ev_all ev_cc336_0 ev_cc336_1)
set_option maxRecDepth 100000 in
theorem ev_cc337_0 : ev_b337_0.all (ev_okc "PathProver$Graph") = true := by decide +kernel
set_option maxRecDepth 100000 in
theorem ev_cc337_1 : ev_b337_1.all (ev_okc "PathProver$Graph") = true := by decide +kernel
set_option maxRecDepth 100000 in
theorem ev_cc337_2 : ev_b337_2.all (ev_okc "PathProver$Graph") = true := by decide +kernel
set_option maxRecDepth 100000 in
theorem ev_cc337_3 : ev_b337_3.all (ev_okc "PathProver$Graph") = true := by decide +kernel
theorem ev_cc337 : ev_b337.all (ev_okc "PathProver$Graph") = true := (ev_all ev_cc337_0 (ev_all ev_cc337_1 (ev_all ev_cc337_2 ev_cc337_3)))
set_option maxRecDepth 100000 in
theorem ev_cc338_0 : ev_b338_0.all (ev_okc "PathProver$Graph") = true := by decide +kernel
set_option maxRecDepth 100000 in
theorem ev_cc338_1 : ev_b338_1.all (ev_okc "PathProver$Graph") = true := by decide +kernel
theorem ev_cc338 : ev_b338.all (ev_okc "PathProver$Graph") = true := (ev_all ev_cc338_0 ev_cc338_1)
set_option maxRecDepth 100000 in
theorem ev_cc339 : ev_b339.all (ev_okc "PathProver$Prover") = true := by decide +kernel
set_option maxRecDepth 100000 in
theorem ev_cc340 : ev_b340.all (ev_okc "PathProver$Prover") = true := by decide +kernel
set_option maxRecDepth 100000 in
theorem ev_cc341 : ev_b341.all (ev_okc "PathProver$Prover") = true := by decide +kernel
set_option maxRecDepth 100000 in
theorem ev_cc342_0 : ev_b342_0.all (ev_okc "PathProver$Prover") = true := by decide +kernel
set_option maxRecDepth 100000 in
theorem ev_cc342_1 : ev_b342_1.all (ev_okc "PathProver$Prover") = true := by decide +kernel
set_option maxRecDepth 100000 in
theorem ev_cc342_2 : ev_b342_2.all (ev_okc "PathProver$Prover") = true := by decide +kernel
set_option maxRecDepth 100000 in
theorem ev_cc342_3 : ev_b342_3.all (ev_okc "PathProver$Prover") = true := by decide +kernel
theorem ev_cc342 : ev_b342.all (ev_okc "PathProver$Prover") = true := (ev_all ev_cc342_0 (ev_all ev_cc342_1 (ev_all ev_cc342_2 ev_cc342_3)))
set_option maxRecDepth 100000 in
theorem ev_cc343_0 : ev_b343_0.all (ev_okc "PathProver$Prover") = true := by decide +kernel
set_option maxRecDepth 100000 in
theorem ev_cc343_1 : ev_b343_1.all (ev_okc "PathProver$Prover") = true := by decide +kernel
theorem ev_cc343 : ev_b343.all (ev_okc "PathProver$Prover") = true := (ev_all ev_cc343_0 ev_cc343_1)
set_option maxRecDepth 100000 in
theorem ev_cc344_0 : ev_b344_0.all (ev_okc "PathProver$Prover") = true := by decide +kernel
set_option maxRecDepth 100000 in
theorem ev_cc344_1 : ev_b344_1.all (ev_okc "PathProver$Prover") = true := by decide +kernel
theorem ev_cc344 : ev_b344.all (ev_okc "PathProver$Prover") = true := (ev_all ev_cc344_0 ev_cc344_1)
set_option maxRecDepth 100000 in
theorem ev_cc345_0 : ev_b345_0.all (ev_okc "PathProver$Prover") = true := by decide +kernel
set_option maxRecDepth 100000 in
theorem ev_cc345_1 : ev_b345_1.all (ev_okc "PathProver$Prover") = true := by decide +kernel
theorem ev_cc345 : ev_b345.all (ev_okc "PathProver$Prover") = true := (ev_all ev_cc345_0 ev_cc345_1)
set_option maxRecDepth 100000 in
theorem ev_cc346 : ev_b346.all (ev_okc "PathProver$Prover") = true := by decide +kernel
set_option maxRecDepth 100000 in
theorem ev_cc347_0 : ev_b347_0.all (ev_okc "PathProver$Prover") = true := by decide +kernel
set_option maxRecDepth 100000 in
theorem ev_cc347_1 : ev_b347_1.all (ev_okc "PathProver$Prover") = true := by decide +kernel
set_option maxRecDepth 100000 in
theorem ev_cc347_2 : ev_b347_2.all (ev_okc "PathProver$Prover") = true := by decide +kernel
theorem ev_cc347 : ev_b347.all (ev_okc "PathProver$Prover") = true := (ev_all ev_cc347_0 (ev_all ev_cc347_1 ev_cc347_2))
set_option maxRecDepth 100000 in
theorem ev_cc348 : ev_b348.all (ev_okc "PathProver$Prover") = true := by decide +kernel
set_option maxRecDepth 100000 in
theorem ev_cc349_0 : ev_b349_0.all (ev_okc "PathProver$Prover") = true := by decide +kernel
set_option maxRecDepth 100000 in
theorem ev_cc349_1 : ev_b349_1.all (ev_okc "PathProver$Prover") = true := by decide +kernel
theorem ev_cc349 : ev_b349.all (ev_okc "PathProver$Prover") = true := (ev_all ev_cc349_0 ev_cc349_1)
set_option maxRecDepth 100000 in
theorem ev_cc350_0 : ev_b350_0.all (ev_okc "PathProver$Prover") = true := by decide +kernel
set_option maxRecDepth 100000 in
theorem ev_cc350_1 : ev_b350_1.all (ev_okc "PathProver$Prover") = true := by decide +kernel
set_option maxRecDepth 100000 in
theorem ev_cc350_2 : ev_b350_2.all (ev_okc "PathProver$Prover") = true := by decide +kernel
theorem ev_cc350 : ev_b350.all (ev_okc "PathProver$Prover") = true := (ev_all ev_cc350_0 (ev_all ev_cc350_1 ev_cc350_2))
set_option maxRecDepth 100000 in
theorem ev_cc351_0 : ev_b351_0.all (ev_okc "PathProver$Prover") = true := by decide +kernel
set_option maxRecDepth 100000 in
theorem ev_cc351_1 : ev_b351_1.all (ev_okc "PathProver$Prover") = true := by decide +kernel
theorem ev_cc351 : ev_b351.all (ev_okc "PathProver$Prover") = true := (ev_all ev_cc351_0 ev_cc351_1)
set_option maxRecDepth 100000 in
theorem ev_cc352_0 : ev_b352_0.all (ev_okc "PathProver$Prover") = true := by decide +kernel
set_option maxRecDepth 100000 in
theorem ev_cc352_1 : ev_b352_1.all (ev_okc "PathProver$Prover") = true := by decide +kernel
theorem ev_cc352 : ev_b352.all (ev_okc "PathProver$Prover") = true := (ev_all ev_cc352_0 ev_cc352_1)
set_option maxRecDepth 100000 in
theorem ev_cc353_0 : ev_b353_0.all (ev_okc "PathProver$Prover") = true := by decide +kernel
set_option maxRecDepth 100000 in
theorem ev_cc353_1 : ev_b353_1.all (ev_okc "PathProver$Prover") = true := by decide +kernel
set_option maxRecDepth 100000 in
theorem ev_cc353_2 : ev_b353_2.all (ev_okc "PathProver$Prover") = true := by decide +kernel
theorem ev_cc353 : ev_b353.all (ev_okc "PathProver$Prover") = true := (ev_all ev_cc353_0 (ev_all ev_cc353_1 ev_cc353_2))
set_option maxRecDepth 100000 in
theorem ev_cc354 : ev_b354.all (ev_okc "PathProver$Prover") = true := by decide +kernel
set_option maxRecDepth 100000 in
theorem ev_cc355_0 : ev_b355_0.all (ev_okc "PathProver$Prover") = true := by decide +kernel
set_option maxRecDepth 100000 in
theorem ev_cc355_1 : ev_b355_1.all (ev_okc "PathProver$Prover") = true := by decide +kernel
theorem ev_cc355 : ev_b355.all (ev_okc "PathProver$Prover") = true := (ev_all ev_cc355_0 ev_cc355_1)
set_option maxRecDepth 100000 in
theorem ev_cc356 : ev_b356.all (ev_okc "PathProver$Prover") = true := by decide +kernel
set_option maxRecDepth 100000 in
theorem ev_cc357 : ev_b357.all (ev_okc "PathProver$Prover") = true := by decide +kernel
set_option maxRecDepth 100000 in
theorem ev_cc358 : ev_b358.all (ev_okc "PathProver$Prover") = true := by decide +kernel
set_option maxRecDepth 100000 in
theorem ev_cc359 : ev_b359.all (ev_okc "PathProver$Prover") = true := by decide +kernel
set_option maxRecDepth 100000 in
theorem ev_cc360 : ev_b360.all (ev_okc "PathProver$Prover") = true := by decide +kernel
set_option maxRecDepth 100000 in
theorem ev_cc361 : ev_b361.all (ev_okc "PathProver$Prover") = true := by decide +kernel
set_option maxRecDepth 100000 in
theorem ev_cc362 : ev_b362.all (ev_okc "PathProver$Prover") = true := by decide +kernel
set_option maxRecDepth 100000 in
theorem ev_cc363 : ev_b363.all (ev_okc "PathProver$Prover") = true := by decide +kernel
set_option maxRecDepth 100000 in
theorem ev_cc364 : ev_b364.all (ev_okc "PathProver$Prover") = true := by decide +kernel
set_option maxRecDepth 100000 in
theorem ev_cc365_0 : ev_b365_0.all (ev_okc "PathProver$Prover") = true := by decide +kernel
set_option maxRecDepth 100000 in
theorem ev_cc365_1 : ev_b365_1.all (ev_okc "PathProver$Prover") = true := by decide +kernel
theorem ev_cc365 : ev_b365.all (ev_okc "PathProver$Prover") = true := (ev_all ev_cc365_0 ev_cc365_1)
set_option maxRecDepth 100000 in
theorem ev_cc366 : ev_b366.all (ev_okc "PathProver$Prover") = true := by decide +kernel
set_option maxRecDepth 100000 in
theorem ev_cc367_0 : ev_b367_0.all (ev_okc "PathProver$Prover") = true := by decide +kernel
set_option maxRecDepth 100000 in
theorem ev_cc367_1 : ev_b367_1.all (ev_okc "PathProver$Prover") = true := by decide +kernel
theorem ev_cc367 : ev_b367.all (ev_okc "PathProver$Prover") = true := (ev_all ev_cc367_0 ev_cc367_1)
set_option maxRecDepth 100000 in
theorem ev_cc368_0 : ev_b368_0.all (ev_okc "PathProver$Prover") = true := by decide +kernel
set_option maxRecDepth 100000 in
theorem ev_cc368_1 : ev_b368_1.all (ev_okc "PathProver$Prover") = true := by decide +kernel
theorem ev_cc368 : ev_b368.all (ev_okc "PathProver$Prover") = true := (ev_all ev_cc368_0 ev_cc368_1)
set_option maxRecDepth 100000 in
theorem ev_cc369 : ev_b369.all (ev_okc "PathProver$Prover") = true := by decide +kernel
set_option maxRecDepth 100000 in
theorem ev_cc370 : ev_b370.all (ev_okc "PathProver$Prover") = true := by decide +kernel
set_option maxRecDepth 100000 in
theorem ev_cc371_0 : ev_b371_0.all (ev_okc "PathProver$Prover") = true := by decide +kernel
set_option maxRecDepth 100000 in
theorem ev_cc371_1 : ev_b371_1.all (ev_okc "PathProver$Prover") = true := by decide +kernel
set_option maxRecDepth 100000 in
theorem ev_cc371_2 : ev_b371_2.all (ev_okc "PathProver$Prover") = true := by decide +kernel
theorem ev_cc371 : ev_b371.all (ev_okc "PathProver$Prover") = true := (ev_all ev_cc371_0 (ev_all ev_cc371_1 ev_cc371_2))
set_option maxRecDepth 100000 in
theorem ev_cc372_0 : ev_b372_0.all (ev_okc "PathProver$Prover") = true := by decide +kernel
set_option maxRecDepth 100000 in
theorem ev_cc372_1 : ev_b372_1.all (ev_okc "PathProver$Prover") = true := by decide +kernel
theorem ev_cc372 : ev_b372.all (ev_okc "PathProver$Prover") = true := (ev_all ev_cc372_0 ev_cc372_1)
set_option maxRecDepth 100000 in
theorem ev_cc373 : ev_b373.all (ev_okc "PathProver$Prover") = true := by decide +kernel
set_option maxRecDepth 100000 in
theorem ev_cc374 : ev_b374.all (ev_okc "PathProver$Prover") = true := by decide +kernel
set_option maxRecDepth 100000 in
theorem ev_cc375 : ev_b375.all (ev_okc "PathProver") = true := by decide +kernel
set_option maxRecDepth 100000 in
theorem ev_cc376_0 : ev_b376_0.all (ev_okc "PathProver") = true := by decide +kernel
set_option maxRecDepth 100000 in
theorem ev_cc376_1 : ev_b376_1.all (ev_okc "PathProver") = true := by decide +kernel
theorem ev_cc376 : ev_b376.all (ev_okc "PathProver") = true := (ev_all ev_cc376_0 ev_cc376_1)
set_option maxRecDepth 100000 in
theorem ev_cc377 : ev_b377.all (ev_okc "PathProver") = true := by decide +kernel
set_option maxRecDepth 100000 in
theorem ev_cc378 : ev_b378.all (ev_okc "PathProver") = true := by decide +kernel
set_option maxRecDepth 100000 in
theorem ev_cc379 : ev_b379.all (ev_okc "PathProver") = true := by decide +kernel
set_option maxRecDepth 100000 in
theorem ev_cc380 : ev_b380.all (ev_okc "PathProver") = true := by decide +kernel
set_option maxRecDepth 100000 in
theorem ev_cc381 : ev_b381.all (ev_okc "PathProver") = true := by decide +kernel
set_option maxRecDepth 100000 in
theorem ev_cc382 : ev_b382.all (ev_okc "PathProver") = true := by decide +kernel
set_option maxRecDepth 100000 in
theorem ev_cc383_0 : ev_b383_0.all (ev_okc "PathProver") = true := by decide +kernel
set_option maxRecDepth 100000 in
theorem ev_cc383_1 : ev_b383_1.all (ev_okc "PathProver") = true := by decide +kernel
theorem ev_cc383 : ev_b383.all (ev_okc "PathProver") = true := (ev_all ev_cc383_0 ev_cc383_1)
set_option maxRecDepth 100000 in
theorem ev_cc384 : ev_b384.all (ev_okc "PathProver") = true := by decide +kernel
set_option maxRecDepth 100000 in
theorem ev_cc385_0 : ev_b385_0.all (ev_okc "PathProver$Model") = true := by decide +kernel
set_option maxRecDepth 100000 in
theorem ev_cc385_1 : ev_b385_1.all (ev_okc "PathProver$Model") = true := by decide +kernel
set_option maxRecDepth 100000 in
theorem ev_cc385_2 : ev_b385_2.all (ev_okc "PathProver$Model") = true := by decide +kernel
theorem ev_cc385 : ev_b385.all (ev_okc "PathProver$Model") = true := (ev_all ev_cc385_0 (ev_all ev_cc385_1 ev_cc385_2))
set_option maxRecDepth 100000 in
theorem ev_cc386 : ev_b386.all (ev_okc "PathProver$Relation") = true := by decide +kernel
set_option maxRecDepth 100000 in
theorem ev_cc387_0 : ev_b387_0.all (ev_okc "PathProver$Relation") = true := by decide +kernel
set_option maxRecDepth 100000 in
theorem ev_cc387_1 : ev_b387_1.all (ev_okc "PathProver$Relation") = true := by decide +kernel
theorem ev_cc387 : ev_b387.all (ev_okc "PathProver$Relation") = true := (ev_all ev_cc387_0 ev_cc387_1)
set_option maxRecDepth 100000 in
theorem ev_cc388 : ev_b388.all (ev_okc "PathProver$Relation") = true := by decide +kernel
set_option maxRecDepth 100000 in
theorem ev_cc389_0 : ev_b389_0.all (ev_okc "PathProver$Relation") = true := by decide +kernel
set_option maxRecDepth 100000 in
theorem ev_cc389_1 : ev_b389_1.all (ev_okc "PathProver$Relation") = true := by decide +kernel
theorem ev_cc389 : ev_b389.all (ev_okc "PathProver$Relation") = true := (ev_all ev_cc389_0 ev_cc389_1)
set_option maxRecDepth 100000 in
theorem ev_cc390 : ev_b390.all (ev_okc "PathProver$Relation") = true := by decide +kernel
set_option maxRecDepth 100000 in
theorem ev_cc391 : ev_b391.all (ev_okc "PathProver$Relation") = true := by decide +kernel
set_option maxRecDepth 100000 in
theorem ev_cc392 : ev_b392.all (ev_okc "PathProver$Relation") = true := by decide +kernel
set_option maxRecDepth 100000 in
theorem ev_cc393 : ev_b393.all (ev_okc "PathProver$Relation") = true := by decide +kernel
set_option maxRecDepth 100000 in
theorem ev_cc394_0 : ev_b394_0.all (ev_okc "PathProver$Relation") = true := by decide +kernel
set_option maxRecDepth 100000 in
theorem ev_cc394_1 : ev_b394_1.all (ev_okc "PathProver$Relation") = true := by decide +kernel
set_option maxRecDepth 100000 in
theorem ev_cc394_2 : ev_b394_2.all (ev_okc "PathProver$Relation") = true := by decide +kernel
set_option maxRecDepth 100000 in
theorem ev_cc394_3 : ev_b394_3.all (ev_okc "PathProver$Relation") = true := by decide +kernel
theorem ev_cc394 : ev_b394.all (ev_okc "PathProver$Relation") = true := (ev_all ev_cc394_0 (ev_all ev_cc394_1 (ev_all ev_cc394_2 ev_cc394_3)))
set_option maxRecDepth 100000 in
theorem ev_cc395_0 : ev_b395_0.all (ev_okc "PathProver$Relation") = true := by decide +kernel
set_option maxRecDepth 100000 in
theorem ev_cc395_1 : ev_b395_1.all (ev_okc "PathProver$Relation") = true := by decide +kernel
theorem ev_cc395 : ev_b395.all (ev_okc "PathProver$Relation") = true := (ev_all ev_cc395_0 ev_cc395_1)
set_option maxRecDepth 100000 in
theorem ev_cc396_0 : ev_b396_0.all (ev_okc "PathProver$Relation") = true := by decide +kernel
set_option maxRecDepth 100000 in
theorem ev_cc396_1 : ev_b396_1.all (ev_okc "PathProver$Relation") = true := by decide +kernel
theorem ev_cc396 : ev_b396.all (ev_okc "PathProver$Relation") = true := (ev_all ev_cc396_0 ev_cc396_1)
set_option maxRecDepth 100000 in
theorem ev_cc397_0 : ev_b397_0.all (ev_okc "PathProver$Relation") = true := by decide +kernel
set_option maxRecDepth 100000 in
theorem ev_cc397_1 : ev_b397_1.all (ev_okc "PathProver$Relation") = true := by decide +kernel
set_option maxRecDepth 100000 in
theorem ev_cc397_2 : ev_b397_2.all (ev_okc "PathProver$Relation") = true := by decide +kernel
theorem ev_cc397 : ev_b397.all (ev_okc "PathProver$Relation") = true := (ev_all ev_cc397_0 (ev_all ev_cc397_1 ev_cc397_2))
set_option maxRecDepth 100000 in
theorem ev_cc398 : ev_b398.all (ev_okc "PathProver$Relation") = true := by decide +kernel
set_option maxRecDepth 100000 in
theorem ev_cc399 : ev_b399.all (ev_okc "PathProver$Relation") = true := by decide +kernel
set_option maxRecDepth 100000 in
theorem ev_cc400 : ev_b400.all (ev_okc "PathProver$Relation") = true := by decide +kernel
set_option maxRecDepth 100000 in
theorem ev_cc401 : ev_b401.all (ev_okc "PathProver$Relation") = true := by decide +kernel
set_option maxRecDepth 100000 in
theorem ev_cc402 : ev_b402.all (ev_okc "PathProver$Relation") = true := by decide +kernel
