/-! Printed by wip/whole/gen8.py: all methods of the list -/
theorem ev_ma25 : ∀ j, 0 < j → j < 25 → ev_Mok j := (ev_upto (ev_upto (ev_upto (ev_upto (ev_upto (ev_upto (ev_upto (ev_upto (ev_upto (ev_upto (ev_upto (ev_upto (ev_upto (ev_upto (ev_upto (ev_upto (ev_upto (ev_upto (ev_upto (ev_upto (ev_upto (ev_upto (ev_upto (ev_upto (fun j h1 h2 => absurd h1 (by omega)) ev_m1) ev_m2) ev_m3) ev_m4) ev_m5) ev_m6) ev_m7) ev_m8) ev_m9) ev_m10) ev_m11) ev_m12) ev_m13) ev_m14) ev_m15) ev_m16) ev_m17) ev_m18) ev_m19) ev_m20) ev_m21) ev_m22) ev_m23) ev_m24)
theorem ev_ma49 : ∀ j, 0 < j → j < 49 → ev_Mok j := (ev_upto (ev_upto (ev_upto (ev_upto (ev_upto (ev_upto (ev_upto (ev_upto (ev_upto (ev_upto (ev_upto (ev_upto (ev_upto (ev_upto (ev_upto (ev_upto (ev_upto (ev_upto (ev_upto (ev_upto (ev_upto (ev_upto (ev_upto (ev_upto ev_ma25 ev_m25) ev_m26) ev_m27) ev_m28) ev_m29) ev_m30) ev_m31) ev_m32) ev_m33) ev_m34) ev_m35) ev_m36) ev_m37) ev_m38) ev_m39) ev_m40) ev_m41) ev_m42) ev_m43) ev_m44) ev_m45) ev_m46) ev_m47) ev_m48)
theorem ev_ma73 : ∀ j, 0 < j → j < 73 → ev_Mok j := (ev_upto (ev_upto (ev_upto (ev_upto (ev_upto (ev_upto (ev_upto (ev_upto (ev_upto (ev_upto (ev_upto (ev_upto (ev_upto (ev_upto (ev_upto (ev_upto (ev_upto (ev_upto (ev_upto (ev_upto (ev_upto (ev_upto (ev_upto (ev_upto ev_ma49 ev_m49) ev_m50) ev_m51) ev_m52) ev_m53) ev_m54) ev_m55) ev_m56) ev_m57) ev_m58) ev_m59) ev_m60) ev_m61) ev_m62) ev_m63) ev_m64) ev_m65) ev_m66) ev_m67) ev_m68) ev_m69) ev_m70) ev_m71) ev_m72)
theorem ev_ma97 : ∀ j, 0 < j → j < 97 → ev_Mok j := (ev_upto (ev_upto (ev_upto (ev_upto (ev_upto (ev_upto (ev_upto (ev_upto (ev_upto (ev_upto (ev_upto (ev_upto (ev_upto (ev_upto (ev_upto (ev_upto (ev_upto (ev_upto (ev_upto (ev_upto (ev_upto (ev_upto (ev_upto (ev_upto ev_ma73 ev_m73) ev_m74) ev_m75) ev_m76) ev_m77) ev_m78) ev_m79) ev_m80) ev_m81) ev_m82) ev_m83) ev_m84) ev_m85) ev_m86) ev_m87) ev_m88) ev_m89) ev_m90) ev_m91) ev_m92) ev_m93) ev_m94) ev_m95) ev_m96)
theorem ev_ma121 : ∀ j, 0 < j → j < 121 → ev_Mok j := (ev_upto (ev_upto (ev_upto (ev_upto (ev_upto (ev_upto (ev_upto (ev_upto (ev_upto (ev_upto (ev_upto (ev_upto (ev_upto (ev_upto (ev_upto (ev_upto (ev_upto (ev_upto (ev_upto (ev_upto (ev_upto (ev_upto (ev_upto (ev_upto ev_ma97 ev_m97) ev_m98) ev_m99) ev_m100) ev_m101) ev_m102) ev_m103) ev_m104) ev_m105) ev_m106) ev_m107) ev_m108) ev_m109) ev_m110) ev_m111) ev_m112) ev_m113) ev_m114) ev_m115) ev_m116) ev_m117) ev_m118) ev_m119) ev_m120)
theorem ev_ma145 : ∀ j, 0 < j → j < 145 → ev_Mok j := (ev_upto (ev_upto (ev_upto (ev_upto (ev_upto (ev_upto (ev_upto (ev_upto (ev_upto (ev_upto (ev_upto (ev_upto (ev_upto (ev_upto (ev_upto (ev_upto (ev_upto (ev_upto (ev_upto (ev_upto (ev_upto (ev_upto (ev_upto (ev_upto ev_ma121 ev_m121) ev_m122) ev_m123) ev_m124) ev_m125) ev_m126) ev_m127) ev_m128) ev_m129) ev_m130) ev_m131) ev_m132) ev_m133) ev_m134) ev_m135) ev_m136) ev_m137) ev_m138) ev_m139) ev_m140) ev_m141) ev_m142) ev_m143) ev_m144)
theorem ev_ma169 : ∀ j, 0 < j → j < 169 → ev_Mok j := (ev_upto (ev_upto (ev_upto (ev_upto (ev_upto (ev_upto (ev_upto (ev_upto (ev_upto (ev_upto (ev_upto (ev_upto (ev_upto (ev_upto (ev_upto (ev_upto (ev_upto (ev_upto (ev_upto (ev_upto (ev_upto (ev_upto (ev_upto (ev_upto ev_ma145 ev_m145) ev_m146) ev_m147) ev_m148) ev_m149) ev_m150) ev_m151) ev_m152) ev_m153) ev_m154) ev_m155) ev_m156) ev_m157) ev_m158) ev_m159) ev_m160) ev_m161) ev_m162) ev_m163) ev_m164) ev_m165) ev_m166) ev_m167) ev_m168)
theorem ev_ma193 : ∀ j, 0 < j → j < 193 → ev_Mok j := (ev_upto (ev_upto (ev_upto (ev_upto (ev_upto (ev_upto (ev_upto (ev_upto (ev_upto (ev_upto (ev_upto (ev_upto (ev_upto (ev_upto (ev_upto (ev_upto (ev_upto (ev_upto (ev_upto (ev_upto (ev_upto (ev_upto (ev_upto (ev_upto ev_ma169 ev_m169) ev_m170) ev_m171) ev_m172) ev_m173) ev_m174) ev_m175) ev_m176) ev_m177) ev_m178) ev_m179) ev_m180) ev_m181) ev_m182) ev_m183) ev_m184) ev_m185) ev_m186) ev_m187) ev_m188) ev_m189) ev_m190) ev_m191) ev_m192)
theorem ev_ma217 : ∀ j, 0 < j → j < 217 → ev_Mok j := (ev_upto (ev_upto (ev_upto (ev_upto (ev_upto (ev_upto (ev_upto (ev_upto (ev_upto (ev_upto (ev_upto (ev_upto (ev_upto (ev_upto (ev_upto (ev_upto (ev_upto (ev_upto (ev_upto (ev_upto (ev_upto (ev_upto (ev_upto (ev_upto ev_ma193 ev_m193) ev_m194) ev_m195) ev_m196) ev_m197) ev_m198) ev_m199) ev_m200) ev_m201) ev_m202) ev_m203) ev_m204) ev_m205) ev_m206) ev_m207) ev_m208) ev_m209) ev_m210) ev_m211) ev_m212) ev_m213) ev_m214) ev_m215) ev_m216)
theorem ev_ma241 : ∀ j, 0 < j → j < 241 → ev_Mok j := (ev_upto (ev_upto (ev_upto (ev_upto (ev_upto (ev_upto (ev_upto (ev_upto (ev_upto (ev_upto (ev_upto (ev_upto (ev_upto (ev_upto (ev_upto (ev_upto (ev_upto (ev_upto (ev_upto (ev_upto (ev_upto (ev_upto (ev_upto (ev_upto ev_ma217 ev_m217) ev_m218) ev_m219) ev_m220) ev_m221) ev_m222) ev_m223) ev_m224) ev_m225) ev_m226) ev_m227) ev_m228) ev_m229) ev_m230) ev_m231) ev_m232) ev_m233) ev_m234) ev_m235) ev_m236) ev_m237) ev_m238) ev_m239) ev_m240)
theorem ev_ma265 : ∀ j, 0 < j → j < 265 → ev_Mok j := (ev_upto (ev_upto (ev_upto (ev_upto (ev_upto (ev_upto (ev_upto (ev_upto (ev_upto (ev_upto (ev_upto (ev_upto (ev_upto (ev_upto (ev_upto (ev_upto (ev_upto (ev_upto (ev_upto (ev_upto (ev_upto (ev_upto (ev_upto (ev_upto ev_ma241 ev_m241) ev_m242) ev_m243) ev_m244) ev_m245) ev_m246) ev_m247) ev_m248) ev_m249) ev_m250) ev_m251) ev_m252) ev_m253) ev_m254) ev_m255) ev_m256) ev_m257) ev_m258) ev_m259) ev_m260) ev_m261) ev_m262) ev_m263) ev_m264)
theorem ev_ma289 : ∀ j, 0 < j → j < 289 → ev_Mok j := (ev_upto (ev_upto (ev_upto (ev_upto (ev_upto (ev_upto (ev_upto (ev_upto (ev_upto (ev_upto (ev_upto (ev_upto (ev_upto (ev_upto (ev_upto (ev_upto (ev_upto (ev_upto (ev_upto (ev_upto (ev_upto (ev_upto (ev_upto (ev_upto ev_ma265 ev_m265) ev_m266) ev_m267) ev_m268) ev_m269) ev_m270) ev_m271) ev_m272) ev_m273) ev_m274) ev_m275) ev_m276) ev_m277) ev_m278) ev_m279) ev_m280) ev_m281) ev_m282) ev_m283) ev_m284) ev_m285) ev_m286) ev_m287) ev_m288)
theorem ev_ma313 : ∀ j, 0 < j → j < 313 → ev_Mok j := (ev_upto (ev_upto (ev_upto (ev_upto (ev_upto (ev_upto (ev_upto (ev_upto (ev_upto (ev_upto (ev_upto (ev_upto (ev_upto (ev_upto (ev_upto (ev_upto (ev_upto (ev_upto (ev_upto (ev_upto (ev_upto (ev_upto (ev_upto (ev_upto ev_ma289 ev_m289) ev_m290) ev_m291) ev_m292) ev_m293) ev_m294) ev_m295) ev_m296) ev_m297) ev_m298) ev_m299) ev_m300) ev_m301) ev_m302) ev_m303) ev_m304) ev_m305) ev_m306) ev_m307) ev_m308) ev_m309) ev_m310) ev_m311) ev_m312)
theorem ev_ma337 : ∀ j, 0 < j → j < 337 → ev_Mok j := (ev_upto (ev_upto (ev_upto (ev_upto (ev_upto (ev_upto (ev_upto (ev_upto (ev_upto (ev_upto (ev_upto (ev_upto (ev_upto (ev_upto (ev_upto (ev_upto (ev_upto (ev_upto (ev_upto (ev_upto (ev_upto (ev_upto (ev_upto (ev_upto ev_ma313 ev_m313) ev_m314) ev_m315) ev_m316) ev_m317) ev_m318) ev_m319) ev_m320) ev_m321) ev_m322) ev_m323) ev_m324) ev_m325) ev_m326) ev_m327) ev_m328) ev_m329) ev_m330) ev_m331) ev_m332) ev_m333) ev_m334) ev_m335) ev_m336)
theorem ev_ma361 : ∀ j, 0 < j → j < 361 → ev_Mok j := (ev_upto (ev_upto (ev_upto (ev_upto (ev_upto (ev_upto (ev_upto (ev_upto (ev_upto (ev_upto (ev_upto (ev_upto (ev_upto (ev_upto (ev_upto (ev_upto (ev_upto (ev_upto (ev_upto (ev_upto (ev_upto (ev_upto (ev_upto (ev_upto ev_ma337 ev_m337) ev_m338) ev_m339) ev_m340) ev_m341) ev_m342) ev_m343) ev_m344) ev_m345) ev_m346) ev_m347) ev_m348) ev_m349) ev_m350) ev_m351) ev_m352) ev_m353) ev_m354) ev_m355) ev_m356) ev_m357) ev_m358) ev_m359) ev_m360)
theorem ev_ma385 : ∀ j, 0 < j → j < 385 → ev_Mok j := (ev_upto (ev_upto (ev_upto (ev_upto (ev_upto (ev_upto (ev_upto (ev_upto (ev_upto (ev_upto (ev_upto (ev_upto (ev_upto (ev_upto (ev_upto (ev_upto (ev_upto (ev_upto (ev_upto (ev_upto (ev_upto (ev_upto (ev_upto (ev_upto ev_ma361 ev_m361) ev_m362) ev_m363) ev_m364) ev_m365) ev_m366) ev_m367) ev_m368) ev_m369) ev_m370) ev_m371) ev_m372) ev_m373) ev_m374) ev_m375) ev_m376) ev_m377) ev_m378) ev_m379) ev_m380) ev_m381) ev_m382) ev_m383) ev_m384)
theorem ev_ma409 : ∀ j, 0 < j → j < 409 → ev_Mok j := (ev_upto (ev_upto (ev_upto (ev_upto (ev_upto (ev_upto (ev_upto (ev_upto (ev_upto (ev_upto (ev_upto (ev_upto (ev_upto (ev_upto (ev_upto (ev_upto (ev_upto (ev_upto (ev_upto (ev_upto (ev_upto (ev_upto (ev_upto (ev_upto ev_ma385 ev_m385) ev_m386) ev_m387) ev_m388) ev_m389) ev_m390) ev_m391) ev_m392) ev_m393) ev_m394) ev_m395) ev_m396) ev_m397) ev_m398) ev_m399) ev_m400) ev_m401) ev_m402) ev_m403) ev_m404) ev_m405) ev_m406) ev_m407) ev_m408)
theorem ev_ma433 : ∀ j, 0 < j → j < 433 → ev_Mok j := (ev_upto (ev_upto (ev_upto (ev_upto (ev_upto (ev_upto (ev_upto (ev_upto (ev_upto (ev_upto (ev_upto (ev_upto (ev_upto (ev_upto (ev_upto (ev_upto (ev_upto (ev_upto (ev_upto (ev_upto (ev_upto (ev_upto (ev_upto (ev_upto ev_ma409 ev_m409) ev_m410) ev_m411) ev_m412) ev_m413) ev_m414) ev_m415) ev_m416) ev_m417) ev_m418) ev_m419) ev_m420) ev_m421) ev_m422) ev_m423) ev_m424) ev_m425) ev_m426) ev_m427) ev_m428) ev_m429) ev_m430) ev_m431) ev_m432)
theorem ev_ma457 : ∀ j, 0 < j → j < 457 → ev_Mok j := (ev_upto (ev_upto (ev_upto (ev_upto (ev_upto (ev_upto (ev_upto (ev_upto (ev_upto (ev_upto (ev_upto (ev_upto (ev_upto (ev_upto (ev_upto (ev_upto (ev_upto (ev_upto (ev_upto (ev_upto (ev_upto (ev_upto (ev_upto (ev_upto ev_ma433 ev_m433) ev_m434) ev_m435) ev_m436) ev_m437) ev_m438) ev_m439) ev_m440) ev_m441) ev_m442) ev_m443) ev_m444) ev_m445) ev_m446) ev_m447) ev_m448) ev_m449) ev_m450) ev_m451) ev_m452) ev_m453) ev_m454) ev_m455) ev_m456)
theorem ev_ma481 : ∀ j, 0 < j → j < 481 → ev_Mok j := (ev_upto (ev_upto (ev_upto (ev_upto (ev_upto (ev_upto (ev_upto (ev_upto (ev_upto (ev_upto (ev_upto (ev_upto (ev_upto (ev_upto (ev_upto (ev_upto (ev_upto (ev_upto (ev_upto (ev_upto (ev_upto (ev_upto (ev_upto (ev_upto ev_ma457 ev_m457) ev_m458) ev_m459) ev_m460) ev_m461) ev_m462) ev_m463) ev_m464) ev_m465) ev_m466) ev_m467) ev_m468) ev_m469) ev_m470) ev_m471) ev_m472) ev_m473) ev_m474) ev_m475) ev_m476) ev_m477) ev_m478) ev_m479) ev_m480)
theorem ev_ma505 : ∀ j, 0 < j → j < 505 → ev_Mok j := (ev_upto (ev_upto (ev_upto (ev_upto (ev_upto (ev_upto (ev_upto (ev_upto (ev_upto (ev_upto (ev_upto (ev_upto (ev_upto (ev_upto (ev_upto (ev_upto (ev_upto (ev_upto (ev_upto (ev_upto (ev_upto (ev_upto (ev_upto (ev_upto ev_ma481 ev_m481) ev_m482) ev_m483) ev_m484) ev_m485) ev_m486) ev_m487) ev_m488) ev_m489) ev_m490) ev_m491) ev_m492) ev_m493) ev_m494) ev_m495) ev_m496) ev_m497) ev_m498) ev_m499) ev_m500) ev_m501) ev_m502) ev_m503) ev_m504)
theorem ev_ma529 : ∀ j, 0 < j → j < 529 → ev_Mok j := (ev_upto (ev_upto (ev_upto (ev_upto (ev_upto (ev_upto (ev_upto (ev_upto (ev_upto (ev_upto (ev_upto (ev_upto (ev_upto (ev_upto (ev_upto (ev_upto (ev_upto (ev_upto (ev_upto (ev_upto (ev_upto (ev_upto (ev_upto (ev_upto ev_ma505 ev_m505) ev_m506) ev_m507) ev_m508) ev_m509) ev_m510) ev_m511) ev_m512) ev_m513) ev_m514) ev_m515) ev_m516) ev_m517) ev_m518) ev_m519) ev_m520) ev_m521) ev_m522) ev_m523) ev_m524) ev_m525) ev_m526) ev_m527) ev_m528)
theorem ev_mz : ∀ j, 0 < j → j < 540 → ev_Mok j := (ev_upto (ev_upto (ev_upto (ev_upto (ev_upto (ev_upto (ev_upto (ev_upto (ev_upto (ev_upto (ev_upto ev_ma529 ev_m529) ev_m530) ev_m531) ev_m532) ev_m533) ev_m534) ev_m535) ev_m536) ev_m537) ev_m538) ev_m539)
theorem ev_inf_some (j : Nat) (h : 540 ≤ j) : ev_inf j = none := by
  unfold ev_inf
  by_cases h2 : j < 552
  · have hc : j = 540 ∨ j = 541 ∨ j = 542 ∨ j = 543 ∨ j = 544 ∨ j = 545 ∨ j = 546 ∨ j = 547 ∨ j = 548 ∨ j = 549 ∨ j = 550 ∨ j = 551 := by omega
    rcases hc with rfl | rfl | rfl | rfl | rfl | rfl | rfl | rfl | rfl | rfl | rfl | rfl <;> rfl
  · have e : ev_infs[j / 24]? = none := by
      apply List.getElem?_eq_none
      show 23 ≤ j / 24
      omega
    rw [e]
theorem ev_ms_some : ∀ j, j < 540 → (ev_ms j).isSome = true := by decide +kernel
theorem ev_mok (j : Nat) (hj : 0 < j) : ev_Mok j := by
  by_cases h : j < 540
  · exact ev_mz j hj h
  · intro N nL ret hh code h1 h2
    rw [ev_inf_some j (by omega)] at h1
    cases h1
theorem ev_inf_ok (j : Nat) (N : ev_N) (h : ev_inf j = some N) (hj : 0 < j) : ev_nok N := by
  have hl : j < 540 := by
    by_cases q : j < 540
    · exact q
    · rw [ev_inf_some j (by omega)] at h
      cases h
  obtain ⟨⟨nL, ret, hh, code⟩, hM⟩ := Option.isSome_iff_exists.mp (ev_ms_some j hl)
  obtain ⟨k1, k2, k3, k4, k5, k6, k7, ps, k8⟩ := ev_mok j hj N nL ret hh code h hM
  exact ⟨k3, by omega⟩
def ev_atc (own : String) (ic x : Nat) (pls dps : List Nat) : Bool := (Bundle.ownAtoms0 own ic (ev_xn x) ev_chain).all fun w => decide (w = .castable (ev_xn x) (ev_xn x)) || decide (w = ev_ref1) || decide (w = ev_ref2) || decide (w = ev_lay1) || decide (w = ev_lay2) || (match w with | .declares _ => dps.any fun pl => decide (ev_pl pl = some w) | _ => pls.any fun pl => ev_hw pl w)
theorem ev_atc_ok {own : String} {ic x : Nat} {pls dps : List Nat} (h : ev_atc own ic x pls dps = true) : ev_atoms own ic x := by
  intro w hw
  have z := List.all_eq_true.mp h w hw
  simp only [Bool.or_eq_true, decide_eq_true_eq] at z
  rcases z with ((((z | z) | z) | z) | z) | z
  · exact Or.inr (Or.inl z)
  · exact Or.inr (Or.inr (Or.inl z))
  · exact Or.inr (Or.inr (Or.inr (Or.inl z)))
  · exact Or.inr (Or.inr (Or.inr (Or.inr (Or.inl z))))
  · exact Or.inr (Or.inr (Or.inr (Or.inr (Or.inr (Or.inl z)))))
  · split at z
    · obtain ⟨pl, -, h2⟩ := List.any_eq_true.mp z
      rw [decide_eq_true_eq] at h2
      exact Or.inr (Or.inr (Or.inr (Or.inr (Or.inr (Or.inr ⟨ev_pl_mem h2, _, rfl⟩)))))
    · obtain ⟨pl, -, h2⟩ := List.any_eq_true.mp z
      exact Or.inl (ev_hw_mem h2)
set_option maxRecDepth 100000 in
theorem ev_at0 : ev_atoms "PathProver" 84 3 ∧ Cond.castable (ev_xn 3) (ev_xn 3) ∈ lw_tbl := ⟨ev_atc_ok (pls := [1023, 1026, 1047, 1048, 4208, 4209, 4216, 4217, 4218, 4219, 4220, 4221, 4222, 4223, 4224, 4225, 4226, 4227, 4228, 4229, 4230, 4231, 4232, 4233, 4235, 4237, 4238, 5001, 5002, 5004, 5005, 5007, 5009, 5010, 5011, 5012, 5013, 5014, 5015, 5016, 5017, 5018, 5019, 5022, 5023, 5024, 5029, 5032, 8176, 8177, 8178, 8185, 17042]) (dps := [4210, 4212, 4214]) (by decide +kernel), (ev_nw_mem (pl := 4209) (by decide +kernel)).1⟩
set_option maxRecDepth 100000 in
theorem ev_at1 : ev_atoms "PathProver" 103 0 ∧ Cond.castable (ev_xn 0) (ev_xn 0) ∈ lw_tbl := ⟨ev_atc_ok (pls := [1023, 1027, 1047, 1048, 4219, 4221, 4223, 4225, 4227, 4228, 4229, 4230, 4231, 4232, 4233, 4235, 4237, 4238, 5001, 5002, 5004, 5005, 5007, 5009, 5014, 5015, 5016, 5017, 5018, 5019, 5022, 5023, 5024, 5055, 5056, 5057, 5058, 5059, 5060, 5061, 5062, 5063, 5064, 5065, 5066, 5067, 5068, 8132, 8133, 8134]) (dps := [4210, 4212, 4214]) (by decide +kernel), (ev_nw_mem (pl := 5056) (by decide +kernel)).1⟩
set_option maxRecDepth 100000 in
theorem ev_at2 : ev_atoms "PathProver" 114 2 ∧ Cond.castable (ev_xn 2) (ev_xn 2) ∈ lw_tbl := ⟨ev_atc_ok (pls := [1023, 1030, 1047, 1048, 4219, 4221, 4223, 4225, 4227, 4228, 4229, 4230, 4231, 4232, 4233, 4235, 4237, 4238, 5001, 5002, 5003, 5004, 5005, 5007, 5009, 5014, 5015, 5016, 5017, 5018, 5019, 5022, 5023, 5024, 7101, 7102, 7103, 7104, 7105, 7106, 7107, 7108, 7109, 7110, 7111, 7112, 7113, 7114]) (dps := [4210, 4212, 4214]) (by decide +kernel), (ev_nw_mem (pl := 7102) (by decide +kernel)).1⟩
set_option maxRecDepth 100000 in
theorem ev_at3 : ev_atoms "PathProverModel" 293 0 ∧ Cond.castable (ev_xn 0) (ev_xn 0) ∈ lw_tbl := ⟨ev_atc_ok (pls := [1023, 1027, 1047, 1048, 4219, 4221, 4223, 4225, 4227, 4228, 4229, 4230, 4231, 4232, 4233, 4235, 4237, 4238, 5001, 5002, 5004, 5005, 5007, 5009, 5014, 5015, 5016, 5017, 5018, 5019, 5022, 5023, 5024, 5055, 5056, 5057, 5058, 5059, 5060, 5061, 5062, 5064, 5065, 5066, 5067, 5068, 8132, 8133, 8134, 14031]) (dps := [4210, 4212, 4214]) (by decide +kernel), (ev_nw_mem (pl := 5056) (by decide +kernel)).1⟩
set_option maxRecDepth 100000 in
theorem ev_at4 : ev_atoms "PathProver" 340 1 ∧ Cond.castable (ev_xn 1) (ev_xn 1) ∈ lw_tbl := ⟨ev_atc_ok (pls := [1023, 1038, 1047, 1048, 4219, 4221, 4223, 4225, 4227, 4228, 4229, 4230, 4231, 4232, 4233, 4235, 4237, 4238, 5001, 5002, 5004, 5005, 5007, 5009, 5014, 5015, 5016, 5017, 5018, 5019, 5022, 5023, 5024, 7156, 7157, 7158, 7159, 7160, 7161, 7162, 7163, 7164, 7165, 7166, 7167, 7168, 7169]) (dps := [4210, 4212, 4214]) (by decide +kernel), (ev_nw_mem (pl := 7157) (by decide +kernel)).1⟩
set_option maxRecDepth 100000 in
theorem ev_at5 : ev_atoms "PathProverModel" 452 2 ∧ Cond.castable (ev_xn 2) (ev_xn 2) ∈ lw_tbl := ⟨ev_atc_ok (pls := [1023, 1030, 1047, 1048, 4219, 4221, 4223, 4225, 4227, 4228, 4229, 4230, 4231, 4232, 4233, 4235, 4237, 4238, 5001, 5002, 5003, 5004, 5005, 5007, 5009, 5014, 5015, 5016, 5017, 5018, 5019, 5022, 5023, 5024, 7101, 7102, 7103, 7104, 7105, 7106, 7107, 7108, 7110, 7111, 7112, 7113, 7114, 15094]) (dps := [4210, 4212, 4214]) (by decide +kernel), (ev_nw_mem (pl := 7102) (by decide +kernel)).1⟩
set_option maxRecDepth 100000 in
theorem ev_at6 : ev_atoms "PathProverModel" 455 3 ∧ Cond.castable (ev_xn 3) (ev_xn 3) ∈ lw_tbl := ⟨ev_atc_ok (pls := [1023, 1026, 1047, 1048, 4208, 4209, 4216, 4217, 4218, 4219, 4220, 4221, 4222, 4223, 4224, 4225, 4226, 4227, 4228, 4229, 4230, 4231, 4232, 4233, 4235, 4237, 4238, 5001, 5002, 5004, 5005, 5007, 5009, 5011, 5012, 5013, 5014, 5015, 5016, 5017, 5018, 5019, 5022, 5023, 5024, 5029, 5032, 8176, 8177, 8178, 8185, 15132, 17042]) (dps := [4210, 4212, 4214]) (by decide +kernel), (ev_nw_mem (pl := 4209) (by decide +kernel)).1⟩
theorem ev_at_all : ∀ q ∈ ev_atl, ev_atoms q.1 q.2.1 q.2.2 ∧ Cond.castable (ev_xn q.2.2) (ev_xn q.2.2) ∈ lw_tbl := by
  intro q hq
  simp only [ev_atl, List.mem_cons, List.not_mem_nil, or_false] at hq
  rcases hq with rfl | rfl | rfl | rfl | rfl | rfl | rfl
  · exact ev_at0
  · exact ev_at1
  · exact ev_at2
  · exact ev_at3
  · exact ev_at4
  · exact ev_at5
  · exact ev_at6
