/-! decoding, printed by wip/whole/gen08.py -/
set_option maxRecDepth 100000 in
theorem px_d1_0 : px_ca2 1 0 120 = true := by decide +kernel
set_option maxRecDepth 100000 in
theorem px_d1_120 : px_ca2 1 120 93 = true := by decide +kernel
theorem px_d1 : px_okm 1 213 := px_cj (px_cj (px_cj0 1) px_d1_0) px_d1_120
set_option maxRecDepth 100000 in
theorem px_d143_0 : px_ca2 143 0 120 = true := by decide +kernel
set_option maxRecDepth 100000 in
theorem px_d143_120 : px_ca2 143 120 91 = true := by decide +kernel
theorem px_d143 : px_okm 143 211 := px_cj (px_cj (px_cj0 143) px_d143_0) px_d143_120
set_option maxRecDepth 100000 in
theorem px_d155_0 : px_ca2 155 0 120 = true := by decide +kernel
set_option maxRecDepth 100000 in
theorem px_d155_120 : px_ca2 155 120 47 = true := by decide +kernel
theorem px_d155 : px_okm 155 167 := px_cj (px_cj (px_cj0 155) px_d155_0) px_d155_120
set_option maxRecDepth 100000 in
theorem px_d231_0 : px_ca2 231 0 120 = true := by decide +kernel
set_option maxRecDepth 100000 in
theorem px_d231_120 : px_ca2 231 120 37 = true := by decide +kernel
theorem px_d231 : px_okm 231 157 := px_cj (px_cj (px_cj0 231) px_d231_0) px_d231_120
set_option maxRecDepth 100000 in
theorem px_d235_0 : px_ca2 235 0 120 = true := by decide +kernel
set_option maxRecDepth 100000 in
theorem px_d235_120 : px_ca2 235 120 24 = true := by decide +kernel
theorem px_d235 : px_okm 235 144 := px_cj (px_cj (px_cj0 235) px_d235_0) px_d235_120
set_option maxRecDepth 100000 in
theorem px_d164_0 : px_ca2 164 0 120 = true := by decide +kernel
set_option maxRecDepth 100000 in
theorem px_d164_120 : px_ca2 164 120 6 = true := by decide +kernel
theorem px_d164 : px_okm 164 126 := px_cj (px_cj (px_cj0 164) px_d164_0) px_d164_120
set_option maxRecDepth 100000 in
theorem px_d150_0 : px_ca2 150 0 120 = true := by decide +kernel
set_option maxRecDepth 100000 in
theorem px_d150_120 : px_ca2 150 120 4 = true := by decide +kernel
theorem px_d150 : px_okm 150 124 := px_cj (px_cj (px_cj0 150) px_d150_0) px_d150_120
set_option maxRecDepth 100000 in
theorem px_d204_0 : px_ca2 204 0 115 = true := by decide +kernel
theorem px_d204 : px_okm 204 115 := px_cj (px_cj0 204) px_d204_0
set_option maxRecDepth 100000 in
theorem px_d136_0 : px_ca2 136 0 109 = true := by decide +kernel
theorem px_d136 : px_okm 136 109 := px_cj (px_cj0 136) px_d136_0
set_option maxRecDepth 100000 in
theorem px_d83_0 : px_ca2 83 0 103 = true := by decide +kernel
theorem px_d83 : px_okm 83 103 := px_cj (px_cj0 83) px_d83_0
set_option maxRecDepth 100000 in
theorem px_d127_0 : px_ca2 127 0 94 = true := by decide +kernel
theorem px_d127 : px_okm 127 94 := px_cj (px_cj0 127) px_d127_0
set_option maxRecDepth 100000 in
theorem px_d38_0 : px_ca2 38 0 86 = true := by decide +kernel
theorem px_d38 : px_okm 38 86 := px_cj (px_cj0 38) px_d38_0
set_option maxRecDepth 100000 in
theorem px_d225_0 : px_ca2 225 0 80 = true := by decide +kernel
theorem px_d225 : px_okm 225 80 := px_cj (px_cj0 225) px_d225_0
set_option maxRecDepth 100000 in
theorem px_d146_0 : px_ca2 146 0 76 = true := by decide +kernel
theorem px_d146 : px_okm 146 76 := px_cj (px_cj0 146) px_d146_0
set_option maxRecDepth 100000 in
theorem px_d211_0 : px_ca2 211 0 74 = true := by decide +kernel
theorem px_d211 : px_okm 211 74 := px_cj (px_cj0 211) px_d211_0
set_option maxRecDepth 100000 in
theorem px_d186_0 : px_ca2 186 0 68 = true := by decide +kernel
theorem px_d186 : px_okm 186 68 := px_cj (px_cj0 186) px_d186_0
set_option maxRecDepth 100000 in
theorem px_d49_0 : px_ca2 49 0 67 = true := by decide +kernel
theorem px_d49 : px_okm 49 67 := px_cj (px_cj0 49) px_d49_0
set_option maxRecDepth 100000 in
theorem px_d17_0 : px_ca2 17 0 65 = true := by decide +kernel
theorem px_d17 : px_okm 17 65 := px_cj (px_cj0 17) px_d17_0
set_option maxRecDepth 100000 in
theorem px_d160_0 : px_ca2 160 0 61 = true := by decide +kernel
theorem px_d160 : px_okm 160 61 := px_cj (px_cj0 160) px_d160_0
set_option maxRecDepth 100000 in
theorem px_d209_0 : px_ca2 209 0 59 = true := by decide +kernel
theorem px_d209 : px_okm 209 59 := px_cj (px_cj0 209) px_d209_0
set_option maxRecDepth 100000 in
theorem px_d79_0 : px_ca2 79 0 54 = true := by decide +kernel
theorem px_d79 : px_okm 79 54 := px_cj (px_cj0 79) px_d79_0
set_option maxRecDepth 100000 in
theorem px_d21_0 : px_ca2 21 0 52 = true := by decide +kernel
theorem px_d21 : px_okm 21 52 := px_cj (px_cj0 21) px_d21_0
set_option maxRecDepth 100000 in
theorem px_d180_0 : px_ca2 180 0 51 = true := by decide +kernel
theorem px_d180 : px_okm 180 51 := px_cj (px_cj0 180) px_d180_0
set_option maxRecDepth 100000 in
theorem px_d221_0 : px_ca2 221 0 51 = true := by decide +kernel
theorem px_d221 : px_okm 221 51 := px_cj (px_cj0 221) px_d221_0
set_option maxRecDepth 100000 in
theorem px_d194_0 : px_ca2 194 0 50 = true := by decide +kernel
theorem px_d194 : px_okm 194 50 := px_cj (px_cj0 194) px_d194_0
set_option maxRecDepth 100000 in
theorem px_d216_0 : px_ca2 216 0 46 = true := by decide +kernel
theorem px_d216 : px_okm 216 46 := px_cj (px_cj0 216) px_d216_0
set_option maxRecDepth 100000 in
theorem px_d82_0 : px_ca2 82 0 44 = true := by decide +kernel
theorem px_d82 : px_okm 82 44 := px_cj (px_cj0 82) px_d82_0
set_option maxRecDepth 100000 in
theorem px_d57_0 : px_ca2 57 0 42 = true := by decide +kernel
theorem px_d57 : px_okm 57 42 := px_cj (px_cj0 57) px_d57_0
set_option maxRecDepth 100000 in
theorem px_d220_0 : px_ca2 220 0 38 = true := by decide +kernel
theorem px_d220 : px_okm 220 38 := px_cj (px_cj0 220) px_d220_0
set_option maxRecDepth 100000 in
theorem px_d36_0 : px_ca2 36 0 33 = true := by decide +kernel
theorem px_d36 : px_okm 36 33 := px_cj (px_cj0 36) px_d36_0
set_option maxRecDepth 100000 in
theorem px_d137_0 : px_ca2 137 0 32 = true := by decide +kernel
theorem px_d137 : px_okm 137 32 := px_cj (px_cj0 137) px_d137_0
set_option maxRecDepth 100000 in
theorem px_d201_0 : px_ca2 201 0 31 = true := by decide +kernel
theorem px_d201 : px_okm 201 31 := px_cj (px_cj0 201) px_d201_0
set_option maxRecDepth 100000 in
theorem px_d192_0 : px_ca2 192 0 30 = true := by decide +kernel
theorem px_d192 : px_okm 192 30 := px_cj (px_cj0 192) px_d192_0
set_option maxRecDepth 100000 in
theorem px_d100_0 : px_ca2 100 0 27 = true := by decide +kernel
theorem px_d100 : px_okm 100 27 := px_cj (px_cj0 100) px_d100_0
set_option maxRecDepth 100000 in
theorem px_d8_0 : px_ca2 8 0 25 = true := by decide +kernel
theorem px_d8 : px_okm 8 25 := px_cj (px_cj0 8) px_d8_0
set_option maxRecDepth 100000 in
theorem px_d157_0 : px_ca2 157 0 24 = true := by decide +kernel
theorem px_d157 : px_okm 157 24 := px_cj (px_cj0 157) px_d157_0
set_option maxRecDepth 100000 in
theorem px_d73_0 : px_ca2 73 0 21 = true := by decide +kernel
theorem px_d73 : px_okm 73 21 := px_cj (px_cj0 73) px_d73_0
set_option maxRecDepth 100000 in
theorem px_d161_0 : px_ca2 161 0 21 = true := by decide +kernel
theorem px_d161 : px_okm 161 21 := px_cj (px_cj0 161) px_d161_0
set_option maxRecDepth 100000 in
theorem px_d68_0 : px_ca2 68 0 19 = true := by decide +kernel
theorem px_d68 : px_okm 68 19 := px_cj (px_cj0 68) px_d68_0
set_option maxRecDepth 100000 in
theorem px_d132_0 : px_ca2 132 0 19 = true := by decide +kernel
theorem px_d132 : px_okm 132 19 := px_cj (px_cj0 132) px_d132_0
set_option maxRecDepth 100000 in
theorem px_d23_0 : px_ca2 23 0 18 = true := by decide +kernel
theorem px_d23 : px_okm 23 18 := px_cj (px_cj0 23) px_d23_0
set_option maxRecDepth 100000 in
theorem px_d7_0 : px_ca2 7 0 15 = true := by decide +kernel
theorem px_d7 : px_okm 7 15 := px_cj (px_cj0 7) px_d7_0
set_option maxRecDepth 100000 in
theorem px_d145_0 : px_ca2 145 0 14 = true := by decide +kernel
theorem px_d145 : px_okm 145 14 := px_cj (px_cj0 145) px_d145_0
set_option maxRecDepth 100000 in
theorem px_d72_0 : px_ca2 72 0 11 = true := by decide +kernel
theorem px_d72 : px_okm 72 11 := px_cj (px_cj0 72) px_d72_0
set_option maxRecDepth 100000 in
theorem px_d219_0 : px_ca2 219 0 10 = true := by decide +kernel
theorem px_d219 : px_okm 219 10 := px_cj (px_cj0 219) px_d219_0
set_option maxRecDepth 100000 in
theorem px_d53_0 : px_ca2 53 0 7 = true := by decide +kernel
theorem px_d53 : px_okm 53 7 := px_cj (px_cj0 53) px_d53_0
set_option maxRecDepth 100000 in
theorem px_d61_0 : px_ca2 61 0 2 = true := by decide +kernel
theorem px_d61 : px_okm 61 2 := px_cj (px_cj0 61) px_d61_0
set_option maxRecDepth 100000 in
theorem px_d71_0 : px_ca2 71 0 2 = true := by decide +kernel
theorem px_d71 : px_okm 71 2 := px_cj (px_cj0 71) px_d71_0
