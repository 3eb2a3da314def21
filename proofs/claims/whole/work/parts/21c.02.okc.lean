/-! Printed by wip/whole/gen8.py: the methods' calls are words of the tables -/
set_option maxRecDepth 100000 in
theorem ev_cc139_0 : ev_b139_0.all (ev_okc "PathProver$Parser") = true := by decide +kernel
set_option maxRecDepth 100000 in
theorem ev_cc139_1 : ev_b139_1.all (ev_okc "PathProver$Parser") = true := by decide +kernel
theorem ev_cc139 : ev_b139.all (ev_okc "PathProver$Parser") = true := (ev_all ev_cc139_0 ev_cc139_1)
set_option maxRecDepth 100000 in
theorem ev_cc140 : ev_b140.all (ev_okc "PathProver$Parser") = true := by decide +kernel
set_option maxRecDepth 100000 in
theorem ev_cc141_0 : ev_b141_0.all (ev_okc "PathProver$Parser") = true := by decide +kernel
set_option maxRecDepth 100000 in
theorem ev_cc141_1 : ev_b141_1.all (ev_okc "PathProver$Parser") = true := by decide +kernel
theorem ev_cc141 : ev_b141.all (ev_okc "PathProver$Parser") = true := (ev_all ev_cc141_0 ev_cc141_1)
set_option maxRecDepth 100000 in
theorem ev_cc142_0 : ev_b142_0.all (ev_okc "PathProver$Parser") = true := by decide +kernel
set_option maxRecDepth 100000 in
theorem ev_cc142_1 : ev_b142_1.all (ev_okc "PathProver$Parser") = true := by decide +kernel
set_option maxRecDepth 100000 in
theorem ev_cc142_2 : ev_b142_2.all (ev_okc "PathProver$Parser") = true := by decide +kernel
theorem ev_cc142 : ev_b142.all (ev_okc "PathProver$Parser") = true := (ev_all ev_cc142_0 (ev_all ev_cc142_1 ev_cc142_2))
set_option maxRecDepth 100000 in
theorem ev_cc143_0 : ev_b143_0.all (ev_okc "PathProver$Parser") = true := by decide +kernel
set_option maxRecDepth 100000 in
theorem ev_cc143_1 : ev_b143_1.all (ev_okc "PathProver$Parser") = true := by decide +kernel
theorem ev_cc143 : ev_b143.all (ev_okc "PathProver$Parser") = true := (ev_all ev_cc143_0 ev_cc143_1)
set_option maxRecDepth 100000 in
theorem ev_cc144_0 : ev_b144_0.all (ev_okc "PathProver$Parser") = true := by decide +kernel
set_option maxRecDepth 100000 in
theorem ev_cc144_1 : ev_b144_1.all (ev_okc "PathProver$Parser") = true := by decide +kernel
theorem ev_cc144 : ev_b144.all (ev_okc "PathProver$Parser") = true := (ev_all ev_cc144_0 ev_cc144_1)
set_option maxRecDepth 100000 in
theorem ev_cc145_0 : ev_b145_0.all (ev_okc "PathProver$Parser") = true := by decide +kernel
set_option maxRecDepth 100000 in
theorem ev_cc145_1 : ev_b145_1.all (ev_okc "PathProver$Parser") = true := by decide +kernel
set_option maxRecDepth 100000 in
theorem ev_cc145_2 : ev_b145_2.all (ev_okc "PathProver$Parser") = true := by decide +kernel
theorem ev_cc145 : ev_b145.all (ev_okc "PathProver$Parser") = true := (ev_all ev_cc145_0 (ev_all ev_cc145_1 ev_cc145_2))
set_option maxRecDepth 100000 in
theorem ev_cc146 : ev_b146.all (ev_okc "PathProver$Parser") = true := by decide +kernel
set_option maxRecDepth 100000 in
theorem ev_cc147_0 : ev_b147_0.all (ev_okc "PathProver$Parser") = true := by decide +kernel
set_option maxRecDepth 100000 in
theorem ev_cc147_1 : ev_b147_1.all (ev_okc "PathProver$Parser") = true := by decide +kernel
theorem ev_cc147 : ev_b147.all (ev_okc "PathProver$Parser") = true := (ev_all ev_cc147_0 ev_cc147_1)
set_option maxRecDepth 100000 in
theorem ev_cc148 : ev_b148.all (ev_okc "PathProver$Parser") = true := by decide +kernel
set_option maxRecDepth 100000 in
theorem ev_cc149_0 : ev_b149_0.all (ev_okc "PathProver$Parser") = true := by decide +kernel
set_option maxRecDepth 100000 in
theorem ev_cc149_1 : ev_b149_1.all (ev_okc "PathProver$Parser") = true := by decide +kernel
theorem ev_cc149 : ev_b149.all (ev_okc "PathProver$Parser") = true := (ev_all ev_cc149_0 ev_cc149_1)
set_option maxRecDepth 100000 in
theorem ev_cc150 : ev_b150.all (ev_okc "PathProver$Parser") = true := by decide +kernel
set_option maxRecDepth 100000 in
theorem ev_cc151_0 : ev_b151_0.all (ev_okc "PathProver$Parser") = true := by decide +kernel
set_option maxRecDepth 100000 in
theorem ev_cc151_1 : ev_b151_1.all (ev_okc "PathProver$Parser") = true := by decide +kernel
theorem ev_cc151 : ev_b151.all (ev_okc "PathProver$Parser") = true := (ev_all ev_cc151_0 ev_cc151_1)
set_option maxRecDepth 100000 in
theorem ev_cc152 : ev_b152.all (ev_okc "PathProver$Parser") = true := by decide +kernel
set_option maxRecDepth 100000 in
theorem ev_cc153 : ev_b153.all (ev_okc "PathProver$Parser") = true := by decide +kernel
set_option maxRecDepth 100000 in
theorem ev_cc154 : ev_b154.all (ev_okc "PathProver$Parser") = true := by decide +kernel
set_option maxRecDepth 100000 in
theorem ev_cc155 : ev_b155.all (ev_okc "PathProver$Parser") = true := by decide +kernel
set_option maxRecDepth 100000 in
theorem ev_cc156 : ev_b156.all (ev_okc "PathProver$Parser") = true := by decide +kernel
set_option maxRecDepth 100000 in
theorem ev_cc157 : ev_b157.all (ev_okc "PathProver$Parser") = true := by decide +kernel
set_option maxRecDepth 100000 in
theorem ev_cc158 : ev_b158.all (ev_okc "PathProver$Parser") = true := by decide +kernel
set_option maxRecDepth 100000 in
theorem ev_cc159_0 : ev_b159_0.all (ev_okc "PathProver$Parser") = true := by decide +kernel
set_option maxRecDepth 100000 in
theorem ev_cc159_1 : ev_b159_1.all (ev_okc "PathProver$Parser") = true := by decide +kernel
set_option maxRecDepth 100000 in
theorem ev_cc159_2 : ev_b159_2.all (ev_okc "PathProver$Parser") = true := by decide +kernel
set_option maxRecDepth 100000 in
theorem ev_cc159_3 : ev_b159_3.all (ev_okc "PathProver$Parser") = true := by decide +kernel
theorem ev_cc159 : ev_b159.all (ev_okc "PathProver$Parser") = true := (ev_all ev_cc159_0 (ev_all ev_cc159_1 (ev_all ev_cc159_2 ev_cc159_3)))
set_option maxRecDepth 100000 in
theorem ev_cc160 : ev_b160.all (ev_okc "PathProver$Parser") = true := by decide +kernel
set_option maxRecDepth 100000 in
theorem ev_cc161 : ev_b161.all (ev_okc "PathProver$Parser") = true := by decide +kernel
set_option maxRecDepth 100000 in
theorem ev_cc162_0 : ev_b162_0.all (ev_okc "PathProver$Parser") = true := by decide +kernel
set_option maxRecDepth 100000 in
theorem ev_cc162_1 : ev_b162_1.all (ev_okc "PathProver$Parser") = true := by decide +kernel
theorem ev_cc162 : ev_b162.all (ev_okc "PathProver$Parser") = true := (ev_all ev_cc162_0 ev_cc162_1)
set_option maxRecDepth 100000 in
theorem ev_cc163 : ev_b163.all (ev_okc "PathProver$Parser") = true := by decide +kernel
set_option maxRecDepth 100000 in
theorem ev_cc164 : ev_b164.all (ev_okc "PathProver$Parser") = true := by decide +kernel
set_option maxRecDepth 100000 in
theorem ev_cc165 : ev_b165.all (ev_okc "PathProver$Parser") = true := by decide +kernel
set_option maxRecDepth 100000 in
theorem ev_cc166 : ev_b166.all (ev_okc "PathProver$Parser") = true := by decide +kernel
set_option maxRecDepth 100000 in
theorem ev_cc167_0 : ev_b167_0.all (ev_okc "PathProver$Parser") = true := by decide +kernel
set_option maxRecDepth 100000 in
theorem ev_cc167_1 : ev_b167_1.all (ev_okc "PathProver$Parser") = true := by decide +kernel
theorem ev_cc167 : ev_b167.all (ev_okc "PathProver$Parser") = true := (ev_all ev_cc167_0 ev_cc167_1)
set_option maxRecDepth 100000 in
theorem ev_cc168_0 : ev_b168_0.all (ev_okc "PathProver$Parser") = true := by decide +kernel
set_option maxRecDepth 100000 in
theorem ev_cc168_1 : ev_b168_1.all (ev_okc "PathProver$Parser") = true := by decide +kernel
set_option maxRecDepth 100000 in
theorem ev_cc168_2 : ev_b168_2.all (ev_okc "PathProver$Parser") = true := by decide +kernel
theorem ev_cc168 : ev_b168.all (ev_okc "PathProver$Parser") = true := (ev_all ev_cc168_0 (ev_all ev_cc168_1 ev_cc168_2))
set_option maxRecDepth 100000 in
theorem ev_cc169 : ev_b169.all (ev_okc "PathProver$Parser") = true := by decide +kernel
set_option maxRecDepth 100000 in
theorem ev_cc170 : ev_b170.all (ev_okc "PathProver$Parser") = true := by decide +kernel
set_option maxRecDepth 100000 in
theorem ev_cc171_0 : ev_b171_0.all (ev_okc "PathProver$Sound") = true := by decide +kernel
set_option maxRecDepth 100000 in
theorem ev_cc171_1 : ev_b171_1.all (ev_okc "PathProver$Sound") = true := by decide +kernel
set_option maxRecDepth 100000 in
theorem ev_cc171_2 : ev_b171_2.all (ev_okc "PathProver$Sound") = true := by decide +kernel
theorem ev_cc171 : ev_b171.all (ev_okc "PathProver$Sound") = true := (ev_all ev_cc171_0 (ev_all ev_cc171_1 ev_cc171_2))
set_option maxRecDepth 100000 in
theorem ev_cc172_0 : ev_b172_0.all (ev_okc "PathProver$Sound") = true := by decide +kernel
set_option maxRecDepth 100000 in
theorem ev_cc172_1 : ev_b172_1.all (ev_okc "PathProver$Sound") = true := by decide +kernel
theorem ev_cc172 : ev_b172.all (ev_okc "PathProver$Sound") = true := (ev_all ev_cc172_0 ev_cc172_1)
set_option maxRecDepth 100000 in
theorem ev_cc173_0 : ev_b173_0.all (ev_okc "PathProver$Sound") = true := by decide +kernel
set_option maxRecDepth 100000 in
theorem ev_cc173_1 : ev_b173_1.all (ev_okc "PathProver$Sound") = true := by decide +kernel
set_option maxRecDepth 100000 in
theorem ev_cc173_2 : ev_b173_2.all (ev_okc "PathProver$Sound") = true := by decide +kernel
set_option maxRecDepth 100000 in
theorem ev_cc173_3 : ev_b173_3.all (ev_okc "PathProver$Sound") = true := by decide +kernel
theorem ev_cc173 : ev_b173.all (ev_okc "PathProver$Sound") = true := (ev_all ev_cc173_0 (ev_all ev_cc173_1 (ev_all ev_cc173_2 ev_cc173_3)))
set_option maxRecDepth 100000 in
theorem ev_cc174_0 : ev_b174_0.all (ev_okc "PathProver$Sound") = true := by decide +kernel
set_option maxRecDepth 100000 in
theorem ev_cc174_1 : ev_b174_1.all (ev_okc "PathProver$Sound") = true := by decide +kernel
theorem ev_cc174 : ev_b174.all (ev_okc "PathProver$Sound") = true := (ev_all ev_cc174_0 ev_cc174_1)
set_option maxRecDepth 100000 in
theorem ev_cc175 : ev_b175.all (ev_okc "PathProver$Sound") = true := by decide +kernel
set_option maxRecDepth 100000 in
theorem ev_cc176 : ev_b176.all (ev_okc "PathProver$Sound") = true := by decide +kernel
set_option maxRecDepth 100000 in
theorem ev_cc177 : ev_b177.all (ev_okc "PathProver$Sound") = true := by decide +kernel
set_option maxRecDepth 100000 in
theorem ev_cc178 : ev_b178.all (ev_okc "PathProver$Sound") = true := by decide +kernel
set_option maxRecDepth 100000 in
theorem ev_cc179_0 : ev_b179_0.all (ev_okc "PathProver$Sound") = true := by decide +kernel
set_option maxRecDepth 100000 in
theorem ev_cc179_1 : ev_b179_1.all (ev_okc "PathProver$Sound") = true := by decide +kernel
set_option maxRecDepth 100000 in
theorem ev_cc179_2 : ev_b179_2.all (ev_okc "PathProver$Sound") = true := by decide +kernel
theorem ev_cc179 : ev_b179.all (ev_okc "PathProver$Sound") = true := (ev_all ev_cc179_0 (ev_all ev_cc179_1 ev_cc179_2))
set_option maxRecDepth 100000 in
theorem ev_cc180_0 : ev_b180_0.all (ev_okc "PathProver$Sound") = true := by decide +kernel
set_option maxRecDepth 100000 in
theorem ev_cc180_1 : ev_b180_1.all (ev_okc "PathProver$Sound") = true := by decide +kernel
theorem ev_cc180 : ev_b180.all (ev_okc "PathProver$Sound") = true := (ev_all ev_cc180_0 ev_cc180_1)
set_option maxRecDepth 100000 in
theorem ev_cc181_0 : ev_b181_0.all (ev_okc "PathProver$Sound") = true := by decide +kernel
set_option maxRecDepth 100000 in
theorem ev_cc181_1 : ev_b181_1.all (ev_okc "PathProver$Sound") = true := by decide +kernel
set_option maxRecDepth 100000 in
theorem ev_cc181_2 : ev_b181_2.all (ev_okc "PathProver$Sound") = true := by decide +kernel
theorem ev_cc181 : ev_b181.all (ev_okc "PathProver$Sound") = true := (ev_all ev_cc181_0 (ev_all ev_cc181_1 ev_cc181_2))
set_option maxRecDepth 100000 in
theorem ev_cc182_0 : ev_b182_0.all (ev_okc "PathProver$Sound") = true := by decide +kernel
set_option maxRecDepth 100000 in
theorem ev_cc182_1 : ev_b182_1.all (ev_okc "PathProver$Sound") = true := by decide +kernel
theorem ev_cc182 : ev_b182.all (ev_okc "PathProver$Sound") = true := (ev_all ev_cc182_0 ev_cc182_1)
set_option maxRecDepth 100000 in
theorem ev_cc183_0 : ev_b183_0.all (ev_okc "PathProver$Sound") = true := by decide +kernel
set_option maxRecDepth 100000 in
theorem ev_cc183_1 : ev_b183_1.all (ev_okc "PathProver$Sound") = true := by decide +kernel
set_option maxRecDepth 100000 in
theorem ev_cc183_2 : ev_b183_2.all (ev_okc "PathProver$Sound") = true := by decide +kernel
set_option maxRecDepth 100000 in
theorem ev_cc183_3 : ev_b183_3.all (ev_okc "PathProver$Sound") = true := by decide +kernel
theorem ev_cc183 : ev_b183.all (ev_okc "PathProver$Sound") = true := (ev_all ev_cc183_0 (ev_all ev_cc183_1 (ev_all ev_cc183_2 ev_cc183_3)))
set_option maxRecDepth 100000 in
theorem ev_cc184_0 : ev_b184_0.all (ev_okc "PathProver$Sound") = true := by decide +kernel
set_option maxRecDepth 100000 in
theorem ev_cc184_1 : ev_b184_1.all (ev_okc "PathProver$Sound") = true := by decide +kernel
theorem ev_cc184 : ev_b184.all (ev_okc "PathProver$Sound") = true := (ev_all ev_cc184_0 ev_cc184_1)
set_option maxRecDepth 100000 in
theorem ev_cc185_0 : ev_b185_0.all (ev_okc "PathProver$Sound") = true := by decide +kernel
set_option maxRecDepth 100000 in
theorem ev_cc185_1 : ev_b185_1.all (ev_okc "PathProver$Sound") = true := by decide +kernel
theorem ev_cc185 : ev_b185.all (ev_okc "PathProver$Sound") = true := (ev_all ev_cc185_0 ev_cc185_1)
set_option maxRecDepth 100000 in
theorem ev_cc186_0 : ev_b186_0.all (ev_okc "PathProver$Judge") = true := by decide +kernel
set_option maxRecDepth 100000 in
theorem ev_cc186_1 : ev_b186_1.all (ev_okc "PathProver$Judge") = true := by decide +kernel
theorem ev_cc186 : ev_b186.all (ev_okc "PathProver$Judge") = true := (ev_all ev_cc186_0 ev_cc186_1)
set_option maxRecDepth 100000 in
theorem ev_cc187 : ev_b187.all (ev_okc "PathProver$Judge") = true := by decide +kernel
set_option maxRecDepth 100000 in
theorem ev_cc188_0 : ev_b188_0.all (ev_okc "PathProver$Judge") = true := by decide +kernel
set_option maxRecDepth 100000 in
theorem ev_cc188_1 : ev_b188_1.all (ev_okc "PathProver$Judge") = true := by decide +kernel
set_option maxRecDepth 100000 in
theorem ev_cc188_2 : ev_b188_2.all (ev_okc "PathProver$Judge") = true := by decide +kernel
set_option maxRecDepth 100000 in
theorem ev_cc188_3 : ev_b188_3.all (ev_okc "PathProver$Judge") = true := by decide +kernel
theorem ev_cc188 : ev_b188.all (ev_okc "PathProver$Judge") = true := (ev_all ev_cc188_0 (ev_all ev_cc188_1 (ev_all ev_cc188_2 ev_cc188_3)))
set_option maxRecDepth 100000 in
theorem ev_cc189_0 : ev_b189_0.all (ev_okc "PathProver$Judge") = true := by decide +kernel
set_option maxRecDepth 100000 in
theorem ev_cc189_1 : ev_b189_1.all (ev_okc "PathProver$Judge") = true := by decide +kernel
theorem ev_cc189 : ev_b189.all (ev_okc "PathProver$Judge") = true := (ev_all ev_cc189_0 ev_cc189_1)
set_option maxRecDepth 100000 in
theorem ev_cc190_0 : ev_b190_0.all (ev_okc "PathProver$Judge") = true := by decide +kernel
set_option maxRecDepth 100000 in
theorem ev_cc190_1 : ev_b190_1.all (ev_okc "PathProver$Judge") = true := by decide +kernel
theorem ev_cc190 : ev_b190.all (ev_okc "PathProver$Judge") = true := (ev_all ev_cc190_0 ev_cc190_1)
set_option maxRecDepth 100000 in
theorem ev_cc191_0 : ev_b191_0.all (ev_okc "PathProver$Judge") = true := by decide +kernel
set_option maxRecDepth 100000 in
theorem ev_cc191_1 : ev_b191_1.all (ev_okc "PathProver$Judge") = true := by decide +kernel
theorem ev_cc191 : ev_b191.all (ev_okc "PathProver$Judge") = true := (ev_all ev_cc191_0 ev_cc191_1)
set_option maxRecDepth 100000 in
theorem ev_cc192_0 : ev_b192_0.all (ev_okc "PathProver$Judge") = true := by decide +kernel
set_option maxRecDepth 100000 in
theorem ev_cc192_1 : ev_b192_1.all (ev_okc "PathProver$Judge") = true := by decide +kernel
theorem ev_cc192 : ev_b192.all (ev_okc "PathProver$Judge") = true := (ev_all ev_cc192_0 ev_cc192_1)
set_option maxRecDepth 100000 in
theorem ev_cc193_0 : ev_b193_0.all (ev_okc "PathProver$Judge") = true := by decide +kernel
set_option maxRecDepth 100000 in
theorem ev_cc193_1 : ev_b193_1.all (ev_okc "PathProver$Judge") = true := by decide +kernel
theorem ev_cc193 : ev_b193.all (ev_okc "PathProver$Judge") = true := (ev_all ev_cc193_0 ev_cc193_1)
