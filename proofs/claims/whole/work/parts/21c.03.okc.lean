/-! Printed by wip/whole/gen8.py: the methods' calls are words of the tables -/
set_option maxRecDepth 100000 in
theorem ev_cc194_0 : ev_b194_0.all (ev_okc "PathProver$Judge") = true := by decide +kernel
set_option maxRecDepth 100000 in
theorem ev_cc194_1 : ev_b194_1.all (ev_okc "PathProver$Judge") = true := by decide +kernel
set_option maxRecDepth 100000 in
theorem ev_cc194_2 : ev_b194_2.all (ev_okc "PathProver$Judge") = true := by decide +kernel
theorem ev_cc194 : ev_b194.all (ev_okc "PathProver$Judge") = true := (ev_all ev_cc194_0 (ev_all ev_cc194_1 ev_cc194_2))
set_option maxRecDepth 100000 in
theorem ev_cc195 : ev_b195.all (ev_okc "PathProver$Judge") = true := by decide +kernel
set_option maxRecDepth 100000 in
theorem ev_cc196 : ev_b196.all (ev_okc "PathProver$Judge") = true := by decide +kernel
set_option maxRecDepth 100000 in
theorem ev_cc197_0 : ev_b197_0.all (ev_okc "PathProver$Judge") = true := by decide +kernel
set_option maxRecDepth 100000 in
theorem ev_cc197_1 : ev_b197_1.all (ev_okc "PathProver$Judge") = true := by decide +kernel
theorem ev_cc197 : ev_b197.all (ev_okc "PathProver$Judge") = true := (ev_all ev_cc197_0 ev_cc197_1)
set_option maxRecDepth 100000 in
theorem ev_cc198_0 : ev_b198_0.all (ev_okc "PathProver$Judge") = true := by decide +kernel
set_option maxRecDepth 100000 in
theorem ev_cc198_1 : ev_b198_1.all (ev_okc "PathProver$Judge") = true := by decide +kernel
set_option maxRecDepth 100000 in
theorem ev_cc198_2 : ev_b198_2.all (ev_okc "PathProver$Judge") = true := by decide +kernel
theorem ev_cc198 : ev_b198.all (ev_okc "PathProver$Judge") = true := (ev_all ev_cc198_0 (ev_all ev_cc198_1 ev_cc198_2))
set_option maxRecDepth 100000 in
theorem ev_cc199_0 : ev_b199_0.all (ev_okc "PathProver$Judge") = true := by decide +kernel
set_option maxRecDepth 100000 in
theorem ev_cc199_1 : ev_b199_1.all (ev_okc "PathProver$Judge") = true := by decide +kernel
theorem ev_cc199 : ev_b199.all (ev_okc "PathProver$Judge") = true := (ev_all ev_cc199_0 ev_cc199_1)
set_option maxRecDepth 100000 in
theorem ev_cc200_0 : ev_b200_0.all (ev_okc "PathProver$Judge") = true := by decide +kernel
set_option maxRecDepth 100000 in
theorem ev_cc200_1 : ev_b200_1.all (ev_okc "PathProver$Judge") = true := by decide +kernel
theorem ev_cc200 : ev_b200.all (ev_okc "PathProver$Judge") = true := (ev_all ev_cc200_0 ev_cc200_1)
set_option maxRecDepth 100000 in
theorem ev_cc201 : ev_b201.all (ev_okc "PathProver$Judge") = true := by decide +kernel
set_option maxRecDepth 100000 in
theorem ev_cc202_0 : ev_b202_0.all (ev_okc "PathProver$Judge") = true := by decide +kernel
set_option maxRecDepth 100000 in
theorem ev_cc202_1 : ev_b202_1.all (ev_okc "PathProver$Judge") = true := by decide +kernel
theorem ev_cc202 : ev_b202.all (ev_okc "PathProver$Judge") = true := (ev_all ev_cc202_0 ev_cc202_1)
set_option maxRecDepth 100000 in
theorem ev_cc203_0 : ev_b203_0.all (ev_okc "PathProver$Machine") = true := by decide +kernel
set_option maxRecDepth 100000 in
theorem ev_cc203_1 : ev_b203_1.all (ev_okc "PathProver$Machine") = true := by decide +kernel
set_option maxRecDepth 100000 in
theorem ev_cc203_2 : ev_b203_2.all (ev_okc "PathProver$Machine") = true := by decide +kernel
set_option maxRecDepth 100000 in
theorem ev_cc203_3 : ev_b203_3.all (ev_okc "PathProver$Machine") = true := by decide +kernel
set_option maxRecDepth 100000 in
theorem ev_cc203_4 : ev_b203_4.all (ev_okc "PathProver$Machine") = true := by decide +kernel
theorem ev_cc203 : ev_b203.all (ev_okc "PathProver$Machine") = true := (ev_all ev_cc203_0 (ev_all ev_cc203_1 (ev_all ev_cc203_2 (ev_all ev_cc203_3 ev_cc203_4))))
set_option maxRecDepth 100000 in
theorem ev_cc204_0 : ev_b204_0.all (ev_okc "PathProver$Machine") = true := by decide +kernel
set_option maxRecDepth 100000 in
theorem ev_cc204_1 : ev_b204_1.all (ev_okc "PathProver$Machine") = true := by decide +kernel
set_option maxRecDepth 100000 in
theorem ev_cc204_2 : ev_b204_2.all (ev_okc "PathProver$Machine") = true := by decide +kernel
set_option maxRecDepth 100000 in
theorem ev_cc204_3 : ev_b204_3.all (ev_okc "PathProver$Machine") = true := by decide +kernel
theorem ev_cc204 : ev_b204.all (ev_okc "PathProver$Machine") = true := (ev_all ev_cc204_0 (ev_all ev_cc204_1 (ev_all ev_cc204_2 ev_cc204_3)))
set_option maxRecDepth 100000 in
theorem ev_cc205 : ev_b205.all (ev_okc "PathProver$Machine") = true := by decide +kernel
set_option maxRecDepth 100000 in
theorem ev_cc206_0 : ev_b206_0.all (ev_okc "PathProver$Machine") = true := by decide +kernel
set_option maxRecDepth 100000 in
theorem ev_cc206_1 : ev_b206_1.all (ev_okc "PathProver$Machine") = true := by decide +kernel
theorem ev_cc206 : ev_b206.all (ev_okc "PathProver$Machine") = true := (ev_all ev_cc206_0 ev_cc206_1)
set_option maxRecDepth 100000 in
theorem ev_cc207_0 : ev_b207_0.all (ev_okc "PathProver$Machine") = true := by decide +kernel
set_option maxRecDepth 100000 in
theorem ev_cc207_1 : ev_b207_1.all (ev_okc "PathProver$Machine") = true := by decide +kernel
theorem ev_cc207 : ev_b207.all (ev_okc "PathProver$Machine") = true := (ev_all ev_cc207_0 ev_cc207_1)
set_option maxRecDepth 100000 in
theorem ev_cc208_0 : ev_b208_0.all (ev_okc "PathProver$Machine") = true := by decide +kernel
set_option maxRecDepth 100000 in
theorem ev_cc208_1 : ev_b208_1.all (ev_okc "PathProver$Machine") = true := by decide +kernel
set_option maxRecDepth 100000 in
theorem ev_cc208_2 : ev_b208_2.all (ev_okc "PathProver$Machine") = true := by decide +kernel
theorem ev_cc208 : ev_b208.all (ev_okc "PathProver$Machine") = true := (ev_all ev_cc208_0 (ev_all ev_cc208_1 ev_cc208_2))
set_option maxRecDepth 100000 in
theorem ev_cc209 : ev_b209.all (ev_okc "PathProver$Machine") = true := by decide +kernel
set_option maxRecDepth 100000 in
theorem ev_cc210 : ev_b210.all (ev_okc "PathProver$Machine") = true := by decide +kernel
set_option maxRecDepth 100000 in
theorem ev_cc211 : ev_b211.all (ev_okc "PathProver$Machine") = true := by decide +kernel
set_option maxRecDepth 100000 in
theorem ev_cc212 : ev_b212.all (ev_okc "PathProver$Machine") = true := by decide +kernel
set_option maxRecDepth 100000 in
theorem ev_cc213_0 : ev_b213_0.all (ev_okc "PathProver$Machine") = true := by decide +kernel
set_option maxRecDepth 100000 in
theorem ev_cc213_1 : ev_b213_1.all (ev_okc "PathProver$Machine") = true := by decide +kernel
set_option maxRecDepth 100000 in
theorem ev_cc213_2 : ev_b213_2.all (ev_okc "PathProver$Machine") = true := by decide +kernel
set_option maxRecDepth 100000 in
theorem ev_cc213_3 : ev_b213_3.all (ev_okc "PathProver$Machine") = true := by decide +kernel
set_option maxRecDepth 100000 in
theorem ev_cc213_4 : ev_b213_4.all (ev_okc "PathProver$Machine") = true := by decide +kernel
set_option maxRecDepth 100000 in
theorem ev_cc213_5 : ev_b213_5.all (ev_okc "PathProver$Machine") = true := by decide +kernel
theorem ev_cc213 : ev_b213.all (ev_okc "PathProver$Machine") = true := (ev_all ev_cc213_0 (ev_all ev_cc213_1 (ev_all ev_cc213_2 (ev_all ev_cc213_3 (ev_all ev_cc213_4 ev_cc213_5)))))
set_option maxRecDepth 100000 in
theorem ev_cc214 : ev_b214.all (ev_okc "PathProver$Machine") = true := by decide +kernel
set_option maxRecDepth 100000 in
theorem ev_cc215 : ev_b215.all (ev_okc "PathProver$Machine") = true := by decide +kernel
set_option maxRecDepth 100000 in
theorem ev_cc216 : ev_b216.all (ev_okc "PathProver$Machine") = true := by decide +kernel
set_option maxRecDepth 100000 in
theorem ev_cc217 : ev_b217.all (ev_okc "PathProver$Machine") = true := by decide +kernel
set_option maxRecDepth 100000 in
theorem ev_cc218_0 : ev_b218_0.all (ev_okc "PathProver$Machine") = true := by decide +kernel
set_option maxRecDepth 100000 in
theorem ev_cc218_1 : ev_b218_1.all (ev_okc "PathProver$Machine") = true := by decide +kernel
set_option maxRecDepth 100000 in
theorem ev_cc218_2 : ev_b218_2.all (ev_okc "PathProver$Machine") = true := by decide +kernel
theorem ev_cc218 : ev_b218.all (ev_okc "PathProver$Machine") = true := (ev_all ev_cc218_0 (ev_all ev_cc218_1 ev_cc218_2))
set_option maxRecDepth 100000 in
theorem ev_cc219_0 : ev_b219_0.all (ev_okc "PathProver$Machine") = true := by decide +kernel
set_option maxRecDepth 100000 in
theorem ev_cc219_1 : ev_b219_1.all (ev_okc "PathProver$Machine") = true := by decide +kernel
set_option maxRecDepth 100000 in
theorem ev_cc219_2 : ev_b219_2.all (ev_okc "PathProver$Machine") = true := by decide +kernel
set_option maxRecDepth 100000 in
theorem ev_cc219_3 : ev_b219_3.all (ev_okc "PathProver$Machine") = true := by decide +kernel
set_option maxRecDepth 100000 in
theorem ev_cc219_4 : ev_b219_4.all (ev_okc "PathProver$Machine") = true := by decide +kernel
theorem ev_cc219 : ev_b219.all (ev_okc "PathProver$Machine") = true := (ev_all ev_cc219_0 (ev_all ev_cc219_1 (ev_all ev_cc219_2 (ev_all ev_cc219_3 ev_cc219_4))))
set_option maxRecDepth 100000 in
theorem ev_cc220 : ev_b220.all (ev_okc "PathProver$Machine") = true := by decide +kernel
set_option maxRecDepth 100000 in
theorem ev_cc221_0 : ev_b221_0.all (ev_okc "PathProver$Machine") = true := by decide +kernel
set_option maxRecDepth 100000 in
theorem ev_cc221_1 : ev_b221_1.all (ev_okc "PathProver$Machine") = true := by decide +kernel
theorem ev_cc221 : ev_b221.all (ev_okc "PathProver$Machine") = true := (ev_all ev_cc221_0 ev_cc221_1)
set_option maxRecDepth 100000 in
theorem ev_cc222_0 : ev_b222_0.all (ev_okc "PathProver$Machine") = true := by decide +kernel
set_option maxRecDepth 100000 in
theorem ev_cc222_1 : ev_b222_1.all (ev_okc "PathProver$Machine") = true := by decide +kernel
set_option maxRecDepth 100000 in
theorem ev_cc222_2 : ev_b222_2.all (ev_okc "PathProver$Machine") = true := by decide +kernel
theorem ev_cc222 : ev_b222.all (ev_okc "PathProver$Machine") = true := (ev_all ev_cc222_0 (ev_all ev_cc222_1 ev_cc222_2))
set_option maxRecDepth 100000 in
theorem ev_cc223_0 : ev_b223_0.all (ev_okc "PathProver$Machine") = true := by decide +kernel
set_option maxRecDepth 100000 in
theorem ev_cc223_1 : ev_b223_1.all (ev_okc "PathProver$Machine") = true := by decide +kernel
theorem ev_cc223 : ev_b223.all (ev_okc "PathProver$Machine") = true := (ev_all ev_cc223_0 ev_cc223_1)
set_option maxRecDepth 100000 in
theorem ev_cc224_0 : ev_b224_0.all (ev_okc "PathProver$Machine") = true := by decide +kernel
set_option maxRecDepth 100000 in
theorem ev_cc224_1 : ev_b224_1.all (ev_okc "PathProver$Machine") = true := by decide +kernel
theorem ev_cc224 : ev_b224.all (ev_okc "PathProver$Machine") = true := (ev_all ev_cc224_0 ev_cc224_1)
set_option maxRecDepth 100000 in
theorem ev_cc225_0 : ev_b225_0.all (ev_okc "PathProver$Machine") = true := by decide +kernel
set_option maxRecDepth 100000 in
theorem ev_cc225_1 : ev_b225_1.all (ev_okc "PathProver$Machine") = true := by decide +kernel
set_option maxRecDepth 100000 in
theorem ev_cc225_2 : ev_b225_2.all (ev_okc "PathProver$Machine") = true := by decide +kernel
set_option maxRecDepth 100000 in
theorem ev_cc225_3 : ev_b225_3.all (ev_okc "PathProver$Machine") = true := by decide +kernel
theorem ev_cc225 : ev_b225.all (ev_okc "PathProver$Machine") = true := (ev_all ev_cc225_0 (ev_all ev_cc225_1 (ev_all ev_cc225_2 ev_cc225_3)))
set_option maxRecDepth 100000 in
theorem ev_cc226_0 : ev_b226_0.all (ev_okc "PathProver$Machine") = true := by decide +kernel
set_option maxRecDepth 100000 in
theorem ev_cc226_1 : ev_b226_1.all (ev_okc "PathProver$Machine") = true := by decide +kernel
set_option maxRecDepth 100000 in
theorem ev_cc226_2 : ev_b226_2.all (ev_okc "PathProver$Machine") = true := by decide +kernel
theorem ev_cc226 : ev_b226.all (ev_okc "PathProver$Machine") = true := (ev_all ev_cc226_0 (ev_all ev_cc226_1 ev_cc226_2))
set_option maxRecDepth 100000 in
theorem ev_cc227_0 : ev_b227_0.all (ev_okc "PathProver$Machine") = true := by decide +kernel
set_option maxRecDepth 100000 in
theorem ev_cc227_1 : ev_b227_1.all (ev_okc "PathProver$Machine") = true := by decide +kernel
set_option maxRecDepth 100000 in
theorem ev_cc227_2 : ev_b227_2.all (ev_okc "PathProver$Machine") = true := by decide +kernel
set_option maxRecDepth 100000 in
theorem ev_cc227_3 : ev_b227_3.all (ev_okc "PathProver$Machine") = true := by decide +kernel
set_option maxRecDepth 100000 in
theorem ev_cc227_4 : ev_b227_4.all (ev_okc "PathProver$Machine") = true := by decide +kernel
theorem ev_cc227 : ev_b227.all (ev_okc "PathProver$Machine") = true := (ev_all ev_cc227_0 (ev_all ev_cc227_1 (ev_all ev_cc227_2 (ev_all ev_cc227_3 ev_cc227_4))))
set_option maxRecDepth 100000 in
theorem ev_cc228_0 : ev_b228_0.all (ev_okc "PathProver$Machine") = true := by decide +kernel
set_option maxRecDepth 100000 in
theorem ev_cc228_1 : ev_b228_1.all (ev_okc "PathProver$Machine") = true := by decide +kernel
set_option maxRecDepth 100000 in
theorem ev_cc228_2 : ev_b228_2.all (ev_okc "PathProver$Machine") = true := by decide +kernel
theorem ev_cc228 : ev_b228.all (ev_okc "PathProver$Machine") = true := (ev_all ev_cc228_0 (ev_all ev_cc228_1 ev_cc228_2))
set_option maxRecDepth 100000 in
theorem ev_cc229 : ev_b229.all (ev_okc "PathProver$Machine") = true := by decide +kernel
set_option maxRecDepth 100000 in
theorem ev_cc230 : ev_b230.all (ev_okc "PathProver$Machine") = true := by decide +kernel
set_option maxRecDepth 100000 in
theorem ev_cc231_0 : ev_b231_0.all (ev_okc "PathProver$Machine") = true := by decide +kernel
set_option maxRecDepth 100000 in
theorem ev_cc231_1 : ev_b231_1.all (ev_okc "PathProver$Machine") = true := by decide +kernel
theorem ev_cc231 : ev_b231.all (ev_okc "PathProver$Machine") = true := (ev_all ev_cc231_0 ev_cc231_1)
set_option maxRecDepth 100000 in
theorem ev_cc232_0 : ev_b232_0.all (ev_okc "PathProver$Machine") = true := by decide +kernel
set_option maxRecDepth 100000 in
theorem ev_cc232_1 : ev_b232_1.all (ev_okc "PathProver$Machine") = true := by decide +kernel
set_option maxRecDepth 100000 in
theorem ev_cc232_2 : ev_b232_2.all (ev_okc "PathProver$Machine") = true := by decide +kernel
theorem ev_cc232 : ev_b232.all (ev_okc "PathProver$Machine") = true := (ev_all ev_cc232_0 (ev_all ev_cc232_1 ev_cc232_2))
set_option maxRecDepth 100000 in
theorem ev_cc233 : ev_b233.all (ev_okc "PathProver$Machine") = true := by decide +kernel
set_option maxRecDepth 100000 in
theorem ev_cc234 : ev_b234.all (ev_okc "PathProver$Machine") = true := by decide +kernel
set_option maxRecDepth 100000 in
theorem ev_cc235_0 : ev_b235_0.all (ev_okc "PathProver$Sets") = true := by decide +kernel
set_option maxRecDepth 100000 in
theorem ev_cc235_1 : ev_b235_1.all (ev_okc "PathProver$Sets") = true := by decide +kernel
theorem ev_cc235 : ev_b235.all (ev_okc "PathProver$Sets") = true := (ev_all ev_cc235_0 ev_cc235_1)
set_option maxRecDepth 100000 in
theorem ev_cc236 : ev_b236.all (ev_okc "PathProver$Sets") = true := by decide +kernel
set_option maxRecDepth 100000 in
theorem ev_cc237_0 : ev_b237_0.all (ev_okc "PathProver$Sets") = true := by decide +kernel
set_option maxRecDepth 100000 in
theorem ev_cc237_1 : ev_b237_1.all (ev_okc "PathProver$Sets") = true := by decide +kernel
theorem ev_cc237 : ev_b237.all (ev_okc "PathProver$Sets") = true := (ev_all ev_cc237_0 ev_cc237_1)
set_option maxRecDepth 100000 in
theorem ev_cc238 : ev_b238.all (ev_okc "PathProver$Sets") = true := by decide +kernel
