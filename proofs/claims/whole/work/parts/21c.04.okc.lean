/-! Printed by wip/whole/gen8.py: the methods' calls are words of the tables -/
set_option maxRecDepth 100000 in
theorem ev_cc239 : ev_b239.all (ev_okc "PathProver$Sets") = true := by decide +kernel
set_option maxRecDepth 100000 in
theorem ev_cc240 : ev_b240.all (ev_okc "PathProver$Sets") = true := by decide +kernel
set_option maxRecDepth 100000 in
theorem ev_cc241_0 : ev_b241_0.all (ev_okc "PathProver$Sets") = true := by decide +kernel
set_option maxRecDepth 100000 in
theorem ev_cc241_1 : ev_b241_1.all (ev_okc "PathProver$Sets") = true := by decide +kernel
set_option maxRecDepth 100000 in
theorem ev_cc241_2 : ev_b241_2.all (ev_okc "PathProver$Sets") = true := by decide +kernel
theorem ev_cc241 : ev_b241.all (ev_okc "PathProver$Sets") = true := (ev_all ev_cc241_0 (ev_all ev_cc241_1 ev_cc241_2))
set_option maxRecDepth 100000 in
theorem ev_cc242_0 : ev_b242_0.all (ev_okc "PathProver$Sets") = true := by decide +kernel
set_option maxRecDepth 100000 in
theorem ev_cc242_1 : ev_b242_1.all (ev_okc "PathProver$Sets") = true := by decide +kernel
set_option maxRecDepth 100000 in
theorem ev_cc242_2 : ev_b242_2.all (ev_okc "PathProver$Sets") = true := by decide +kernel
theorem ev_cc242 : ev_b242.all (ev_okc "PathProver$Sets") = true := (ev_all ev_cc242_0 (ev_all ev_cc242_1 ev_cc242_2))
set_option maxRecDepth 100000 in
theorem ev_cc243 : ev_b243.all (ev_okc "PathProver$Sets") = true := by decide +kernel
set_option maxRecDepth 100000 in
theorem ev_cc244 : ev_b244.all (ev_okc "PathProver$Sets") = true := by decide +kernel
set_option maxRecDepth 100000 in
theorem ev_cc245 : ev_b245.all (ev_okc "PathProver$Sets") = true := by decide +kernel
set_option maxRecDepth 100000 in
theorem ev_cc246 : ev_b246.all (ev_okc "PathProver$Sets") = true := by decide +kernel
set_option maxRecDepth 100000 in
theorem ev_cc247 : ev_b247.all (ev_okc "PathProver$Sets") = true := by decide +kernel
set_option maxRecDepth 100000 in
theorem ev_cc248 : ev_b248.all (ev_okc "PathProver$Sets") = true := by decide +kernel
set_option maxRecDepth 100000 in
theorem ev_cc249 : ev_b249.all (ev_okc "PathProver$Sets") = true := by decide +kernel
set_option maxRecDepth 100000 in
theorem ev_cc250_0 : ev_b250_0.all (ev_okc "PathProver$Sets") = true := by decide +kernel
set_option maxRecDepth 100000 in
theorem ev_cc250_1 : ev_b250_1.all (ev_okc "PathProver$Sets") = true := by decide +kernel
set_option maxRecDepth 100000 in
theorem ev_cc250_2 : ev_b250_2.all (ev_okc "PathProver$Sets") = true := by decide +kernel
theorem ev_cc250 : ev_b250.all (ev_okc "PathProver$Sets") = true := (ev_all ev_cc250_0 (ev_all ev_cc250_1 ev_cc250_2))
set_option maxRecDepth 100000 in
theorem ev_cc251_0 : ev_b251_0.all (ev_okc "PathProver$Sets") = true := by decide +kernel
set_option maxRecDepth 100000 in
theorem ev_cc251_1 : ev_b251_1.all (ev_okc "PathProver$Sets") = true := by decide +kernel
set_option maxRecDepth 100000 in
theorem ev_cc251_2 : ev_b251_2.all (ev_okc "PathProver$Sets") = true := by decide +kernel
set_option maxRecDepth 100000 in
theorem ev_cc251_3 : ev_b251_3.all (ev_okc "PathProver$Sets") = true := by decide +kernel
set_option maxRecDepth 100000 in
theorem ev_cc251_4 : ev_b251_4.all (ev_okc "PathProver$Sets") = true := by decide +kernel
set_option maxRecDepth 100000 in
theorem ev_cc251_5 : ev_b251_5.all (ev_okc "PathProver$Sets") = true := by decide +kernel
theorem ev_cc251 : ev_b251.all (ev_okc "PathProver$Sets") = true := (ev_all ev_cc251_0 (ev_all ev_cc251_1 (ev_all ev_cc251_2 (ev_all ev_cc251_3 (ev_all ev_cc251_4 ev_cc251_5)))))
set_option maxRecDepth 100000 in
theorem ev_cc252 : ev_b252.all (ev_okc "PathProver$Sets") = true := by decide +kernel
set_option maxRecDepth 100000 in
theorem ev_cc253 : ev_b253.all (ev_okc "PathProver$Sets") = true := by decide +kernel
set_option maxRecDepth 100000 in
theorem ev_cc254_0 : ev_b254_0.all (ev_okc "PathProver$Sets") = true := by decide +kernel
set_option maxRecDepth 100000 in
theorem ev_cc254_1 : ev_b254_1.all (ev_okc "PathProver$Sets") = true := by decide +kernel
set_option maxRecDepth 100000 in
theorem ev_cc254_2 : ev_b254_2.all (ev_okc "PathProver$Sets") = true := by decide +kernel
set_option maxRecDepth 100000 in
theorem ev_cc254_3 : ev_b254_3.all (ev_okc "PathProver$Sets") = true := by decide +kernel
theorem ev_cc254 : ev_b254.all (ev_okc "PathProver$Sets") = true := (ev_all ev_cc254_0 (ev_all ev_cc254_1 (ev_all ev_cc254_2 ev_cc254_3)))
set_option maxRecDepth 100000 in
theorem ev_cc255 : ev_b255.all (ev_okc "PathProver$Sets") = true := by decide +kernel
set_option maxRecDepth 100000 in
theorem ev_cc256 : ev_b256.all (ev_okc "PathProver$Sets") = true := by decide +kernel
set_option maxRecDepth 100000 in
theorem ev_cc257_0 : ev_b257_0.all (ev_okc "PathProver$Space") = true := by decide +kernel
set_option maxRecDepth 100000 in
theorem ev_cc257_1 : ev_b257_1.all (ev_okc "PathProver$Space") = true := by decide +kernel
set_option maxRecDepth 100000 in
theorem ev_cc257_2 : ev_b257_2.all (ev_okc "PathProver$Space") = true := by decide +kernel
set_option maxRecDepth 100000 in
theorem ev_cc257_3 : ev_b257_3.all (ev_okc "PathProver$Space") = true := by decide +kernel
theorem ev_cc257 : ev_b257.all (ev_okc "PathProver$Space") = true := (ev_all ev_cc257_0 (ev_all ev_cc257_1 (ev_all ev_cc257_2 ev_cc257_3)))
set_option maxRecDepth 100000 in
theorem ev_cc258 : ev_b258.all (ev_okc "PathProver$Space") = true := by decide +kernel
set_option maxRecDepth 100000 in
theorem ev_cc259 : ev_b259.all (ev_okc "PathProver$Space") = true := by decide +kernel
set_option maxRecDepth 100000 in
theorem ev_cc260_0 : ev_b260_0.all (ev_okc "PathProver$Space") = true := by decide +kernel
set_option maxRecDepth 100000 in
theorem ev_cc260_1 : ev_b260_1.all (ev_okc "PathProver$Space") = true := by decide +kernel
theorem ev_cc260 : ev_b260.all (ev_okc "PathProver$Space") = true := (ev_all ev_cc260_0 ev_cc260_1)
set_option maxRecDepth 100000 in
theorem ev_cc261_0 : ev_b261_0.all (ev_okc "PathProver$Space") = true := by decide +kernel
set_option maxRecDepth 100000 in
theorem ev_cc261_1 : ev_b261_1.all (ev_okc "PathProver$Space") = true := by decide +kernel
set_option maxRecDepth 100000 in
theorem ev_cc261_2 : ev_b261_2.all (ev_okc "PathProver$Space") = true := by decide +kernel
theorem ev_cc261 : ev_b261.all (ev_okc "PathProver$Space") = true := (ev_all ev_cc261_0 (ev_all ev_cc261_1 ev_cc261_2))
set_option maxRecDepth 100000 in
theorem ev_cc262 : ev_b262.all (ev_okc "PathProver$Space") = true := by decide +kernel
set_option maxRecDepth 100000 in
theorem ev_cc263_0 : ev_b263_0.all (ev_okc "PathProver$Space") = true := by decide +kernel
set_option maxRecDepth 100000 in
theorem ev_cc263_1 : ev_b263_1.all (ev_okc "PathProver$Space") = true := by decide +kernel
theorem ev_cc263 : ev_b263.all (ev_okc "PathProver$Space") = true := (ev_all ev_cc263_0 ev_cc263_1)
set_option maxRecDepth 100000 in
theorem ev_cc264 : ev_b264.all (ev_okc "PathProver$Space") = true := by decide +kernel
set_option maxRecDepth 100000 in
theorem ev_cc265_0 : ev_b265_0.all (ev_okc "PathProver$Space") = true := by decide +kernel
set_option maxRecDepth 100000 in
theorem ev_cc265_1 : ev_b265_1.all (ev_okc "PathProver$Space") = true := by decide +kernel
set_option maxRecDepth 100000 in
theorem ev_cc265_2 : ev_b265_2.all (ev_okc "PathProver$Space") = true := by decide +kernel
set_option maxRecDepth 100000 in
theorem ev_cc265_3 : ev_b265_3.all (ev_okc "PathProver$Space") = true := by decide +kernel
set_option maxRecDepth 100000 in
theorem ev_cc265_4 : ev_b265_4.all (ev_okc "PathProver$Space") = true := by decide +kernel
set_option maxRecDepth 100000 in
theorem ev_cc265_5 : ev_b265_5.all (ev_okc "PathProver$Space") = true := by decide +kernel
theorem ev_cc265 : ev_b265.all (ev_okc "PathProver$Space") = true := (ev_all ev_cc265_0 (ev_all ev_cc265_1 (ev_all ev_cc265_2 (ev_all ev_cc265_3 (ev_all ev_cc265_4 ev_cc265_5)))))
set_option maxRecDepth 100000 in
theorem ev_cc266 : ev_b266.all (ev_okc "PathProver$Space") = true := by decide +kernel
set_option maxRecDepth 100000 in
theorem ev_cc267_0 : ev_b267_0.all (ev_okc "PathProver$Space") = true := by decide +kernel
set_option maxRecDepth 100000 in
theorem ev_cc267_1 : ev_b267_1.all (ev_okc "PathProver$Space") = true := by decide +kernel
theorem ev_cc267 : ev_b267.all (ev_okc "PathProver$Space") = true := (ev_all ev_cc267_0 ev_cc267_1)
set_option maxRecDepth 100000 in
theorem ev_cc268_0 : ev_b268_0.all (ev_okc "PathProver$Space") = true := by decide +kernel
set_option maxRecDepth 100000 in
theorem ev_cc268_1 : ev_b268_1.all (ev_okc "PathProver$Space") = true := by decide +kernel
set_option maxRecDepth 100000 in
theorem ev_cc268_2 : ev_b268_2.all (ev_okc "PathProver$Space") = true := by decide +kernel
set_option maxRecDepth 100000 in
theorem ev_cc268_3 : ev_b268_3.all (ev_okc "PathProver$Space") = true := by decide +kernel
set_option maxRecDepth 100000 in
theorem ev_cc268_4 : ev_b268_4.all (ev_okc "PathProver$Space") = true := by decide +kernel
theorem ev_cc268 : ev_b268.all (ev_okc "PathProver$Space") = true := (ev_all ev_cc268_0 (ev_all ev_cc268_1 (ev_all ev_cc268_2 (ev_all ev_cc268_3 ev_cc268_4))))
set_option maxRecDepth 100000 in
theorem ev_cc269 : ev_b269.all (ev_okc "PathProver$Space") = true := by decide +kernel
set_option maxRecDepth 100000 in
theorem ev_cc270 : ev_b270.all (ev_okc "PathProver$Relation") = true := by decide +kernel
set_option maxRecDepth 100000 in
theorem ev_cc271_0 : ev_b271_0.all (ev_okc "PathProver$Relation") = true := by decide +kernel
set_option maxRecDepth 100000 in
theorem ev_cc271_1 : ev_b271_1.all (ev_okc "PathProver$Relation") = true := by decide +kernel
theorem ev_cc271 : ev_b271.all (ev_okc "PathProver$Relation") = true := (ev_all ev_cc271_0 ev_cc271_1)
set_option maxRecDepth 100000 in
theorem ev_cc272 : ev_b272.all (ev_okc "PathProver$Relation") = true := by decide +kernel
set_option maxRecDepth 100000 in
theorem ev_cc273 : ev_b273.all (ev_okc "PathProver$Relation") = true := by decide +kernel
set_option maxRecDepth 100000 in
theorem ev_cc274 : ev_b274.all (ev_okc "PathProver$Relation") = true := by decide +kernel
set_option maxRecDepth 100000 in
theorem ev_cc275_0 : ev_b275_0.all (ev_okc "PathProver$Relation") = true := by decide +kernel
set_option maxRecDepth 100000 in
theorem ev_cc275_1 : ev_b275_1.all (ev_okc "PathProver$Relation") = true := by decide +kernel
set_option maxRecDepth 100000 in
theorem ev_cc275_2 : ev_b275_2.all (ev_okc "PathProver$Relation") = true := by decide +kernel
set_option maxRecDepth 100000 in
theorem ev_cc275_3 : ev_b275_3.all (ev_okc "PathProver$Relation") = true := by decide +kernel
theorem ev_cc275 : ev_b275.all (ev_okc "PathProver$Relation") = true := (ev_all ev_cc275_0 (ev_all ev_cc275_1 (ev_all ev_cc275_2 ev_cc275_3)))
set_option maxRecDepth 100000 in
theorem ev_cc276_0 : ev_b276_0.all (ev_okc "PathProver$Relation") = true := by decide +kernel
set_option maxRecDepth 100000 in
theorem ev_cc276_1 : ev_b276_1.all (ev_okc "PathProver$Relation") = true := by decide +kernel
set_option maxRecDepth 100000 in
theorem ev_cc276_2 : ev_b276_2.all (ev_okc "PathProver$Relation") = true := by decide +kernel
set_option maxRecDepth 100000 in
theorem ev_cc276_3 : ev_b276_3.all (ev_okc "PathProver$Relation") = true := by decide +kernel
theorem ev_cc276 : ev_b276.all (ev_okc "PathProver$Relation") = true := (ev_all ev_cc276_0 (ev_all ev_cc276_1 (ev_all ev_cc276_2 ev_cc276_3)))
set_option maxRecDepth 100000 in
theorem ev_cc277_0 : ev_b277_0.all (ev_okc "PathProver$Relation") = true := by decide +kernel
set_option maxRecDepth 100000 in
theorem ev_cc277_1 : ev_b277_1.all (ev_okc "PathProver$Relation") = true := by decide +kernel
theorem ev_cc277 : ev_b277.all (ev_okc "PathProver$Relation") = true := (ev_all ev_cc277_0 ev_cc277_1)
set_option maxRecDepth 100000 in
theorem ev_cc278_0 : ev_b278_0.all (ev_okc "PathProver$Relation") = true := by decide +kernel
set_option maxRecDepth 100000 in
theorem ev_cc278_1 : ev_b278_1.all (ev_okc "PathProver$Relation") = true := by decide +kernel
set_option maxRecDepth 100000 in
theorem ev_cc278_2 : ev_b278_2.all (ev_okc "PathProver$Relation") = true := by decide +kernel
set_option maxRecDepth 100000 in
theorem ev_cc278_3 : ev_b278_3.all (ev_okc "PathProver$Relation") = true := by decide +kernel
theorem ev_cc278 : ev_b278.all (ev_okc "PathProver$Relation") = true := (ev_all ev_cc278_0 (ev_all ev_cc278_1 (ev_all ev_cc278_2 ev_cc278_3)))
set_option maxRecDepth 100000 in
theorem ev_cc279_0 : ev_b279_0.all (ev_okc "PathProver$Relation") = true := by decide +kernel
set_option maxRecDepth 100000 in
theorem ev_cc279_1 : ev_b279_1.all (ev_okc "PathProver$Relation") = true := by decide +kernel
theorem ev_cc279 : ev_b279.all (ev_okc "PathProver$Relation") = true := (ev_all ev_cc279_0 ev_cc279_1)
set_option maxRecDepth 100000 in
theorem ev_cc280_0 : ev_b280_0.all (ev_okc "PathProver$Relation") = true := by decide +kernel
set_option maxRecDepth 100000 in
theorem ev_cc280_1 : ev_b280_1.all (ev_okc "PathProver$Relation") = true := by decide +kernel
set_option maxRecDepth 100000 in
theorem ev_cc280_2 : ev_b280_2.all (ev_okc "PathProver$Relation") = true := by decide +kernel
theorem ev_cc280 : ev_b280.all (ev_okc "PathProver$Relation") = true := (ev_all ev_cc280_0 (ev_all ev_cc280_1 ev_cc280_2))
set_option maxRecDepth 100000 in
theorem ev_cc281_0 : ev_b281_0.all (ev_okc "PathProver$Relation") = true := by decide +kernel
set_option maxRecDepth 100000 in
theorem ev_cc281_1 : ev_b281_1.all (ev_okc "PathProver$Relation") = true := by decide +kernel
theorem ev_cc281 : ev_b281.all (ev_okc "PathProver$Relation") = true := (ev_all ev_cc281_0 ev_cc281_1)
set_option maxRecDepth 100000 in
theorem ev_cc282 : ev_b282.all (ev_okc "PathProver$Relation") = true := by decide +kernel
set_option maxRecDepth 100000 in
theorem ev_cc283_0 : ev_b283_0.all (ev_okc "PathProver$Relation") = true := by decide +kernel
set_option maxRecDepth 100000 in
theorem ev_cc283_1 : ev_b283_1.all (ev_okc "PathProver$Relation") = true := by decide +kernel
set_option maxRecDepth 100000 in
theorem ev_cc283_2 : ev_b283_2.all (ev_okc "PathProver$Relation") = true := by decide +kernel
theorem ev_cc283 : ev_b283.all (ev_okc "PathProver$Relation") = true := (ev_all ev_cc283_0 (ev_all ev_cc283_1 ev_cc283_2))
set_option maxRecDepth 100000 in
theorem ev_cc284_0 : ev_b284_0.all (ev_okc "PathProver$Relation") = true := by decide +kernel
set_option maxRecDepth 100000 in
theorem ev_cc284_1 : ev_b284_1.all (ev_okc "PathProver$Relation") = true := by decide +kernel
theorem ev_cc284 : ev_b284.all (ev_okc "PathProver$Relation") = true := (ev_all ev_cc284_0 ev_cc284_1)
set_option maxRecDepth 100000 in
theorem ev_cc285_0 : ev_b285_0.all (ev_okc "PathProver$Relation") = true := by decide +kernel
set_option maxRecDepth 100000 in
theorem ev_cc285_1 : ev_b285_1.all (ev_okc "PathProver$Relation") = true := by decide +kernel
theorem ev_cc285 : ev_b285.all (ev_okc "PathProver$Relation") = true := (ev_all ev_cc285_0 ev_cc285_1)
set_option maxRecDepth 100000 in
theorem ev_cc286_0 : ev_b286_0.all (ev_okc "PathProver$Relation") = true := by decide +kernel
set_option maxRecDepth 100000 in
theorem ev_cc286_1 : ev_b286_1.all (ev_okc "PathProver$Relation") = true := by decide +kernel
theorem ev_cc286 : ev_b286.all (ev_okc "PathProver$Relation") = true := (ev_all ev_cc286_0 ev_cc286_1)
set_option maxRecDepth 100000 in
theorem ev_cc287 : ev_b287.all (ev_okc "PathProver$Relation") = true := by decide +kernel
set_option maxRecDepth 100000 in
theorem ev_cc288_0 : ev_b288_0.all (ev_okc "PathProver$Relation") = true := by decide +kernel
set_option maxRecDepth 100000 in
theorem ev_cc288_1 : ev_b288_1.all (ev_okc "PathProver$Relation") = true := by decide +kernel
set_option maxRecDepth 100000 in
theorem ev_cc288_2 : ev_b288_2.all (ev_okc "PathProver$Relation") = true := by decide +kernel
set_option maxRecDepth 100000 in
theorem ev_cc288_3 : ev_b288_3.all (ev_okc "PathProver$Relation") = true := by decide +kernel
theorem ev_cc288 : ev_b288.all (ev_okc "PathProver$Relation") = true := (ev_all ev_cc288_0 (ev_all ev_cc288_1 (ev_all ev_cc288_2 ev_cc288_3)))
