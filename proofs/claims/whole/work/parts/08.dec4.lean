/-! decoding, printed by wip/whole/gen08.py -/
set_option maxRecDepth 100000 in
theorem px_d213_0 : px_ca2 213 0 120 = true := by decide +kernel
set_option maxRecDepth 100000 in
theorem px_d213_120 : px_ca2 213 120 120 = true := by decide +kernel
set_option maxRecDepth 100000 in
theorem px_d213_240 : px_ca2 213 240 3 = true := by decide +kernel
theorem px_d213 : px_okm 213 243 := px_cj (px_cj (px_cj (px_cj0 213) px_d213_0) px_d213_120) px_d213_240
set_option maxRecDepth 100000 in
theorem px_d234_0 : px_ca2 234 0 120 = true := by decide +kernel
set_option maxRecDepth 100000 in
theorem px_d234_120 : px_ca2 234 120 65 = true := by decide +kernel
theorem px_d234 : px_okm 234 185 := px_cj (px_cj (px_cj0 234) px_d234_0) px_d234_120
set_option maxRecDepth 100000 in
theorem px_d183_0 : px_ca2 183 0 120 = true := by decide +kernel
set_option maxRecDepth 100000 in
theorem px_d183_120 : px_ca2 183 120 43 = true := by decide +kernel
theorem px_d183 : px_okm 183 163 := px_cj (px_cj (px_cj0 183) px_d183_0) px_d183_120
set_option maxRecDepth 100000 in
theorem px_d227_0 : px_ca2 227 0 120 = true := by decide +kernel
set_option maxRecDepth 100000 in
theorem px_d227_120 : px_ca2 227 120 34 = true := by decide +kernel
theorem px_d227 : px_okm 227 154 := px_cj (px_cj (px_cj0 227) px_d227_0) px_d227_120
set_option maxRecDepth 100000 in
theorem px_d105_0 : px_ca2 105 0 120 = true := by decide +kernel
set_option maxRecDepth 100000 in
theorem px_d105_120 : px_ca2 105 120 20 = true := by decide +kernel
theorem px_d105 : px_okm 105 140 := px_cj (px_cj (px_cj0 105) px_d105_0) px_d105_120
set_option maxRecDepth 100000 in
theorem px_d167_0 : px_ca2 167 0 120 = true := by decide +kernel
set_option maxRecDepth 100000 in
theorem px_d167_120 : px_ca2 167 120 6 = true := by decide +kernel
theorem px_d167 : px_okm 167 126 := px_cj (px_cj (px_cj0 167) px_d167_0) px_d167_120
set_option maxRecDepth 100000 in
theorem px_d138_0 : px_ca2 138 0 118 = true := by decide +kernel
theorem px_d138 : px_okm 138 118 := px_cj (px_cj0 138) px_d138_0
set_option maxRecDepth 100000 in
theorem px_d110_0 : px_ca2 110 0 113 = true := by decide +kernel
theorem px_d110 : px_okm 110 113 := px_cj (px_cj0 110) px_d110_0
set_option maxRecDepth 100000 in
theorem px_d232_0 : px_ca2 232 0 108 = true := by decide +kernel
theorem px_d232 : px_okm 232 108 := px_cj (px_cj0 232) px_d232_0
set_option maxRecDepth 100000 in
theorem px_d50_0 : px_ca2 50 0 96 = true := by decide +kernel
theorem px_d50 : px_okm 50 96 := px_cj (px_cj0 50) px_d50_0
set_option maxRecDepth 100000 in
theorem px_d124_0 : px_ca2 124 0 88 = true := by decide +kernel
theorem px_d124 : px_okm 124 88 := px_cj (px_cj0 124) px_d124_0
set_option maxRecDepth 100000 in
theorem px_d119_0 : px_ca2 119 0 85 = true := by decide +kernel
theorem px_d119 : px_okm 119 85 := px_cj (px_cj0 119) px_d119_0
set_option maxRecDepth 100000 in
theorem px_d142_0 : px_ca2 142 0 79 = true := by decide +kernel
theorem px_d142 : px_okm 142 79 := px_cj (px_cj0 142) px_d142_0
set_option maxRecDepth 100000 in
theorem px_d107_0 : px_ca2 107 0 75 = true := by decide +kernel
theorem px_d107 : px_okm 107 75 := px_cj (px_cj0 107) px_d107_0
set_option maxRecDepth 100000 in
theorem px_d129_0 : px_ca2 129 0 71 = true := by decide +kernel
theorem px_d129 : px_okm 129 71 := px_cj (px_cj0 129) px_d129_0
set_option maxRecDepth 100000 in
theorem px_d181_0 : px_ca2 181 0 68 = true := by decide +kernel
theorem px_d181 : px_okm 181 68 := px_cj (px_cj0 181) px_d181_0
set_option maxRecDepth 100000 in
theorem px_d236_0 : px_ca2 236 0 68 = true := by decide +kernel
theorem px_d236 : px_okm 236 68 := px_cj (px_cj0 236) px_d236_0
set_option maxRecDepth 100000 in
theorem px_d80_0 : px_ca2 80 0 65 = true := by decide +kernel
theorem px_d80 : px_okm 80 65 := px_cj (px_cj0 80) px_d80_0
set_option maxRecDepth 100000 in
theorem px_d86_0 : px_ca2 86 0 61 = true := by decide +kernel
theorem px_d86 : px_okm 86 61 := px_cj (px_cj0 86) px_d86_0
set_option maxRecDepth 100000 in
theorem px_d84_0 : px_ca2 84 0 59 = true := by decide +kernel
theorem px_d84 : px_okm 84 59 := px_cj (px_cj0 84) px_d84_0
set_option maxRecDepth 100000 in
theorem px_d228_0 : px_ca2 228 0 55 = true := by decide +kernel
theorem px_d228 : px_okm 228 55 := px_cj (px_cj0 228) px_d228_0
set_option maxRecDepth 100000 in
theorem px_d147_0 : px_ca2 147 0 52 = true := by decide +kernel
theorem px_d147 : px_okm 147 52 := px_cj (px_cj0 147) px_d147_0
set_option maxRecDepth 100000 in
theorem px_d185_0 : px_ca2 185 0 51 = true := by decide +kernel
theorem px_d185 : px_okm 185 51 := px_cj (px_cj0 185) px_d185_0
set_option maxRecDepth 100000 in
theorem px_d118_0 : px_ca2 118 0 50 = true := by decide +kernel
theorem px_d118 : px_okm 118 50 := px_cj (px_cj0 118) px_d118_0
set_option maxRecDepth 100000 in
theorem px_d189_0 : px_ca2 189 0 50 = true := by decide +kernel
theorem px_d189 : px_okm 189 50 := px_cj (px_cj0 189) px_d189_0
set_option maxRecDepth 100000 in
theorem px_d96_0 : px_ca2 96 0 47 = true := by decide +kernel
theorem px_d96 : px_okm 96 47 := px_cj (px_cj0 96) px_d96_0
set_option maxRecDepth 100000 in
theorem px_d22_0 : px_ca2 22 0 43 = true := by decide +kernel
theorem px_d22 : px_okm 22 43 := px_cj (px_cj0 22) px_d22_0
set_option maxRecDepth 100000 in
theorem px_d111_0 : px_ca2 111 0 41 = true := by decide +kernel
theorem px_d111 : px_okm 111 41 := px_cj (px_cj0 111) px_d111_0
set_option maxRecDepth 100000 in
theorem px_d19_0 : px_ca2 19 0 35 = true := by decide +kernel
theorem px_d19 : px_okm 19 35 := px_cj (px_cj0 19) px_d19_0
set_option maxRecDepth 100000 in
theorem px_d13_0 : px_ca2 13 0 33 = true := by decide +kernel
theorem px_d13 : px_okm 13 33 := px_cj (px_cj0 13) px_d13_0
set_option maxRecDepth 100000 in
theorem px_d237_0 : px_ca2 237 0 33 = true := by decide +kernel
theorem px_d237 : px_okm 237 33 := px_cj (px_cj0 237) px_d237_0
set_option maxRecDepth 100000 in
theorem px_d165_0 : px_ca2 165 0 30 = true := by decide +kernel
theorem px_d165 : px_okm 165 30 := px_cj (px_cj0 165) px_d165_0
set_option maxRecDepth 100000 in
theorem px_d187_0 : px_ca2 187 0 30 = true := by decide +kernel
theorem px_d187 : px_okm 187 30 := px_cj (px_cj0 187) px_d187_0
set_option maxRecDepth 100000 in
theorem px_d226_0 : px_ca2 226 0 28 = true := by decide +kernel
theorem px_d226 : px_okm 226 28 := px_cj (px_cj0 226) px_d226_0
set_option maxRecDepth 100000 in
theorem px_d30_0 : px_ca2 30 0 24 = true := by decide +kernel
theorem px_d30 : px_okm 30 24 := px_cj (px_cj0 30) px_d30_0
set_option maxRecDepth 100000 in
theorem px_d5_0 : px_ca2 5 0 23 = true := by decide +kernel
theorem px_d5 : px_okm 5 23 := px_cj (px_cj0 5) px_d5_0
set_option maxRecDepth 100000 in
theorem px_d116_0 : px_ca2 116 0 23 = true := by decide +kernel
theorem px_d116 : px_okm 116 23 := px_cj (px_cj0 116) px_d116_0
set_option maxRecDepth 100000 in
theorem px_d205_0 : px_ca2 205 0 20 = true := by decide +kernel
theorem px_d205 : px_okm 205 20 := px_cj (px_cj0 205) px_d205_0
set_option maxRecDepth 100000 in
theorem px_d74_0 : px_ca2 74 0 19 = true := by decide +kernel
theorem px_d74 : px_okm 74 19 := px_cj (px_cj0 74) px_d74_0
set_option maxRecDepth 100000 in
theorem px_d16_0 : px_ca2 16 0 18 = true := by decide +kernel
theorem px_d16 : px_okm 16 18 := px_cj (px_cj0 16) px_d16_0
set_option maxRecDepth 100000 in
theorem px_d59_0 : px_ca2 59 0 18 = true := by decide +kernel
theorem px_d59 : px_okm 59 18 := px_cj (px_cj0 59) px_d59_0
set_option maxRecDepth 100000 in
theorem px_d10_0 : px_ca2 10 0 15 = true := by decide +kernel
theorem px_d10 : px_okm 10 15 := px_cj (px_cj0 10) px_d10_0
set_option maxRecDepth 100000 in
theorem px_d148_0 : px_ca2 148 0 12 = true := by decide +kernel
theorem px_d148 : px_okm 148 12 := px_cj (px_cj0 148) px_d148_0
set_option maxRecDepth 100000 in
theorem px_d92_0 : px_ca2 92 0 10 = true := by decide +kernel
theorem px_d92 : px_okm 92 10 := px_cj (px_cj0 92) px_d92_0
set_option maxRecDepth 100000 in
theorem px_d65_0 : px_ca2 65 0 8 = true := by decide +kernel
theorem px_d65 : px_okm 65 8 := px_cj (px_cj0 65) px_d65_0
set_option maxRecDepth 100000 in
theorem px_d56_0 : px_ca2 56 0 7 = true := by decide +kernel
theorem px_d56 : px_okm 56 7 := px_cj (px_cj0 56) px_d56_0
