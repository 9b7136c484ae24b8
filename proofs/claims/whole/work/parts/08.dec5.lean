/-! decoding, printed by wip/whole/gen08.py -/
set_option maxRecDepth 100000 in
theorem px_d87_0 : px_ca2 87 0 120 = true := by decide +kernel
set_option maxRecDepth 100000 in
theorem px_d87_120 : px_ca2 87 120 102 = true := by decide +kernel
theorem px_d87 : px_okm 87 222 := px_cj (px_cj (px_cj0 87) px_d87_0) px_d87_120
set_option maxRecDepth 100000 in
theorem px_d217_0 : px_ca2 217 0 120 = true := by decide +kernel
set_option maxRecDepth 100000 in
theorem px_d217_120 : px_ca2 217 120 70 = true := by decide +kernel
theorem px_d217 : px_okm 217 190 := px_cj (px_cj (px_cj0 217) px_d217_0) px_d217_120
set_option maxRecDepth 100000 in
theorem px_d20_0 : px_ca2 20 0 120 = true := by decide +kernel
set_option maxRecDepth 100000 in
theorem px_d20_120 : px_ca2 20 120 50 = true := by decide +kernel
theorem px_d20 : px_okm 20 170 := px_cj (px_cj (px_cj0 20) px_d20_0) px_d20_120
set_option maxRecDepth 100000 in
theorem px_d198_0 : px_ca2 198 0 120 = true := by decide +kernel
set_option maxRecDepth 100000 in
theorem px_d198_120 : px_ca2 198 120 43 = true := by decide +kernel
theorem px_d198 : px_okm 198 163 := px_cj (px_cj (px_cj0 198) px_d198_0) px_d198_120
set_option maxRecDepth 100000 in
theorem px_d130_0 : px_ca2 130 0 120 = true := by decide +kernel
set_option maxRecDepth 100000 in
theorem px_d130_120 : px_ca2 130 120 23 = true := by decide +kernel
theorem px_d130 : px_okm 130 143 := px_cj (px_cj (px_cj0 130) px_d130_0) px_d130_120
set_option maxRecDepth 100000 in
theorem px_d229_0 : px_ca2 229 0 120 = true := by decide +kernel
set_option maxRecDepth 100000 in
theorem px_d229_120 : px_ca2 229 120 13 = true := by decide +kernel
theorem px_d229 : px_okm 229 133 := px_cj (px_cj (px_cj0 229) px_d229_0) px_d229_120
set_option maxRecDepth 100000 in
theorem px_d168_0 : px_ca2 168 0 120 = true := by decide +kernel
set_option maxRecDepth 100000 in
theorem px_d168_120 : px_ca2 168 120 6 = true := by decide +kernel
theorem px_d168 : px_okm 168 126 := px_cj (px_cj (px_cj0 168) px_d168_0) px_d168_120
set_option maxRecDepth 100000 in
theorem px_d60_0 : px_ca2 60 0 117 = true := by decide +kernel
theorem px_d60 : px_okm 60 117 := px_cj (px_cj0 60) px_d60_0
set_option maxRecDepth 100000 in
theorem px_d158_0 : px_ca2 158 0 114 = true := by decide +kernel
theorem px_d158 : px_okm 158 114 := px_cj (px_cj0 158) px_d158_0
set_option maxRecDepth 100000 in
theorem px_d154_0 : px_ca2 154 0 109 = true := by decide +kernel
theorem px_d154 : px_okm 154 109 := px_cj (px_cj0 154) px_d154_0
set_option maxRecDepth 100000 in
theorem px_d170_0 : px_ca2 170 0 99 = true := by decide +kernel
theorem px_d170 : px_okm 170 99 := px_cj (px_cj0 170) px_d170_0
set_option maxRecDepth 100000 in
theorem px_d106_0 : px_ca2 106 0 91 = true := by decide +kernel
theorem px_d106 : px_okm 106 91 := px_cj (px_cj0 106) px_d106_0
set_option maxRecDepth 100000 in
theorem px_d101_0 : px_ca2 101 0 84 = true := by decide +kernel
theorem px_d101 : px_okm 101 84 := px_cj (px_cj0 101) px_d101_0
set_option maxRecDepth 100000 in
theorem px_d152_0 : px_ca2 152 0 78 = true := by decide +kernel
theorem px_d152 : px_okm 152 78 := px_cj (px_cj0 152) px_d152_0
set_option maxRecDepth 100000 in
theorem px_d151_0 : px_ca2 151 0 76 = true := by decide +kernel
theorem px_d151 : px_okm 151 76 := px_cj (px_cj0 151) px_d151_0
set_option maxRecDepth 100000 in
theorem px_d140_0 : px_ca2 140 0 69 = true := by decide +kernel
theorem px_d140 : px_okm 140 69 := px_cj (px_cj0 140) px_d140_0
set_option maxRecDepth 100000 in
theorem px_d176_0 : px_ca2 176 0 68 = true := by decide +kernel
theorem px_d176 : px_okm 176 68 := px_cj (px_cj0 176) px_d176_0
set_option maxRecDepth 100000 in
theorem px_d224_0 : px_ca2 224 0 68 = true := by decide +kernel
theorem px_d224 : px_okm 224 68 := px_cj (px_cj0 224) px_d224_0
set_option maxRecDepth 100000 in
theorem px_d88_0 : px_ca2 88 0 66 = true := by decide +kernel
theorem px_d88 : px_okm 88 66 := px_cj (px_cj0 88) px_d88_0
set_option maxRecDepth 100000 in
theorem px_d128_0 : px_ca2 128 0 64 = true := by decide +kernel
theorem px_d128 : px_okm 128 64 := px_cj (px_cj0 128) px_d128_0
set_option maxRecDepth 100000 in
theorem px_d212_0 : px_ca2 212 0 61 = true := by decide +kernel
theorem px_d212 : px_okm 212 61 := px_cj (px_cj0 212) px_d212_0
set_option maxRecDepth 100000 in
theorem px_d103_0 : px_ca2 103 0 56 = true := by decide +kernel
theorem px_d103 : px_okm 103 56 := px_cj (px_cj0 103) px_d103_0
set_option maxRecDepth 100000 in
theorem px_d207_0 : px_ca2 207 0 54 = true := by decide +kernel
theorem px_d207 : px_okm 207 54 := px_cj (px_cj0 207) px_d207_0
set_option maxRecDepth 100000 in
theorem px_d102_0 : px_ca2 102 0 51 = true := by decide +kernel
theorem px_d102 : px_okm 102 51 := px_cj (px_cj0 102) px_d102_0
set_option maxRecDepth 100000 in
theorem px_d195_0 : px_ca2 195 0 51 = true := by decide +kernel
theorem px_d195 : px_okm 195 51 := px_cj (px_cj0 195) px_d195_0
set_option maxRecDepth 100000 in
theorem px_d162_0 : px_ca2 162 0 50 = true := by decide +kernel
theorem px_d162 : px_okm 162 50 := px_cj (px_cj0 162) px_d162_0
set_option maxRecDepth 100000 in
theorem px_d199_0 : px_ca2 199 0 50 = true := by decide +kernel
theorem px_d199 : px_okm 199 50 := px_cj (px_cj0 199) px_d199_0
set_option maxRecDepth 100000 in
theorem px_d25_0 : px_ca2 25 0 45 = true := by decide +kernel
theorem px_d25 : px_okm 25 45 := px_cj (px_cj0 25) px_d25_0
set_option maxRecDepth 100000 in
theorem px_d115_0 : px_ca2 115 0 43 = true := by decide +kernel
theorem px_d115 : px_okm 115 43 := px_cj (px_cj0 115) px_d115_0
set_option maxRecDepth 100000 in
theorem px_d3_0 : px_ca2 3 0 40 = true := by decide +kernel
theorem px_d3 : px_okm 3 40 := px_cj (px_cj0 3) px_d3_0
set_option maxRecDepth 100000 in
theorem px_d24_0 : px_ca2 24 0 35 = true := by decide +kernel
theorem px_d24 : px_okm 24 35 := px_cj (px_cj0 24) px_d24_0
set_option maxRecDepth 100000 in
theorem px_d41_0 : px_ca2 41 0 33 = true := by decide +kernel
theorem px_d41 : px_okm 41 33 := px_cj (px_cj0 41) px_d41_0
set_option maxRecDepth 100000 in
theorem px_d45_0 : px_ca2 45 0 31 = true := by decide +kernel
theorem px_d45 : px_okm 45 31 := px_cj (px_cj0 45) px_d45_0
set_option maxRecDepth 100000 in
theorem px_d172_0 : px_ca2 172 0 30 = true := by decide +kernel
theorem px_d172 : px_okm 172 30 := px_cj (px_cj0 172) px_d172_0
set_option maxRecDepth 100000 in
theorem px_d197_0 : px_ca2 197 0 30 = true := by decide +kernel
theorem px_d197 : px_okm 197 30 := px_cj (px_cj0 197) px_d197_0
set_option maxRecDepth 100000 in
theorem px_d28_0 : px_ca2 28 0 26 = true := by decide +kernel
theorem px_d28 : px_okm 28 26 := px_cj (px_cj0 28) px_d28_0
set_option maxRecDepth 100000 in
theorem px_d31_0 : px_ca2 31 0 24 = true := by decide +kernel
theorem px_d31 : px_okm 31 24 := px_cj (px_cj0 31) px_d31_0
set_option maxRecDepth 100000 in
theorem px_d70_0 : px_ca2 70 0 23 = true := by decide +kernel
theorem px_d70 : px_okm 70 23 := px_cj (px_cj0 70) px_d70_0
set_option maxRecDepth 100000 in
theorem px_d89_0 : px_ca2 89 0 21 = true := by decide +kernel
theorem px_d89 : px_okm 89 21 := px_cj (px_cj0 89) px_d89_0
set_option maxRecDepth 100000 in
theorem px_d77_0 : px_ca2 77 0 20 = true := by decide +kernel
theorem px_d77 : px_okm 77 20 := px_cj (px_cj0 77) px_d77_0
set_option maxRecDepth 100000 in
theorem px_d94_0 : px_ca2 94 0 19 = true := by decide +kernel
theorem px_d94 : px_okm 94 19 := px_cj (px_cj0 94) px_d94_0
set_option maxRecDepth 100000 in
theorem px_d18_0 : px_ca2 18 0 18 = true := by decide +kernel
theorem px_d18 : px_okm 18 18 := px_cj (px_cj0 18) px_d18_0
set_option maxRecDepth 100000 in
theorem px_d76_0 : px_ca2 76 0 18 = true := by decide +kernel
theorem px_d76 : px_okm 76 18 := px_cj (px_cj0 76) px_d76_0
set_option maxRecDepth 100000 in
theorem px_d114_0 : px_ca2 114 0 14 = true := by decide +kernel
theorem px_d114 : px_okm 114 14 := px_cj (px_cj0 114) px_d114_0
set_option maxRecDepth 100000 in
theorem px_d29_0 : px_ca2 29 0 12 = true := by decide +kernel
theorem px_d29 : px_okm 29 12 := px_cj (px_cj0 29) px_d29_0
set_option maxRecDepth 100000 in
theorem px_d6_0 : px_ca2 6 0 11 = true := by decide +kernel
theorem px_d6 : px_okm 6 11 := px_cj (px_cj0 6) px_d6_0
set_option maxRecDepth 100000 in
theorem px_d125_0 : px_ca2 125 0 10 = true := by decide +kernel
theorem px_d125 : px_okm 125 10 := px_cj (px_cj0 125) px_d125_0
set_option maxRecDepth 100000 in
theorem px_d51_0 : px_ca2 51 0 7 = true := by decide +kernel
theorem px_d51 : px_okm 51 7 := px_cj (px_cj0 51) px_d51_0
set_option maxRecDepth 100000 in
theorem px_d40_0 : px_ca2 40 0 6 = true := by decide +kernel
theorem px_d40 : px_okm 40 6 := px_cj (px_cj0 40) px_d40_0
