/-! decoding, printed by wip/whole/gen08.py -/
set_option maxRecDepth 100000 in
theorem px_d141_0 : px_ca2 141 0 60 = true := by decide +kernel
set_option maxRecDepth 100000 in
theorem px_d141_60 : px_ca2 141 60 60 = true := by decide +kernel
set_option maxRecDepth 100000 in
theorem px_d141_120 : px_ca2 141 120 60 = true := by decide +kernel
set_option maxRecDepth 100000 in
theorem px_d141_180 : px_ca2 141 180 60 = true := by decide +kernel
set_option maxRecDepth 100000 in
theorem px_d141_240 : px_ca2 141 240 60 = true := by decide +kernel
set_option maxRecDepth 100000 in
theorem px_d141_300 : px_ca2 141 300 1 = true := by decide +kernel
theorem px_d141 : px_okm 141 301 := px_cj (px_cj (px_cj (px_cj (px_cj (px_cj (px_cj0 141) px_d141_0) px_d141_60) px_d141_120) px_d141_180) px_d141_240) px_d141_300
set_option maxRecDepth 100000 in
theorem px_d178_0 : px_ca2 178 0 120 = true := by decide +kernel
set_option maxRecDepth 100000 in
theorem px_d178_120 : px_ca2 178 120 43 = true := by decide +kernel
theorem px_d178 : px_okm 178 163 := px_cj (px_cj (px_cj0 178) px_d178_0) px_d178_120
set_option maxRecDepth 100000 in
theorem px_d193_0 : px_ca2 193 0 120 = true := by decide +kernel
set_option maxRecDepth 100000 in
theorem px_d193_120 : px_ca2 193 120 43 = true := by decide +kernel
theorem px_d193 : px_okm 193 163 := px_cj (px_cj (px_cj0 193) px_d193_0) px_d193_120
set_option maxRecDepth 100000 in
theorem px_d230_0 : px_ca2 230 0 120 = true := by decide +kernel
set_option maxRecDepth 100000 in
theorem px_d230_120 : px_ca2 230 120 24 = true := by decide +kernel
theorem px_d230 : px_okm 230 144 := px_cj (px_cj (px_cj0 230) px_d230_0) px_d230_120
set_option maxRecDepth 100000 in
theorem px_d26_0 : px_ca2 26 0 120 = true := by decide +kernel
set_option maxRecDepth 100000 in
theorem px_d26_120 : px_ca2 26 120 11 = true := by decide +kernel
theorem px_d26 : px_okm 26 131 := px_cj (px_cj (px_cj0 26) px_d26_0) px_d26_120
set_option maxRecDepth 100000 in
theorem px_d166_0 : px_ca2 166 0 120 = true := by decide +kernel
set_option maxRecDepth 100000 in
theorem px_d166_120 : px_ca2 166 120 6 = true := by decide +kernel
theorem px_d166 : px_okm 166 126 := px_cj (px_cj (px_cj0 166) px_d166_0) px_d166_120
set_option maxRecDepth 100000 in
theorem px_d214_0 : px_ca2 214 0 120 = true := by decide +kernel
set_option maxRecDepth 100000 in
theorem px_d214_120 : px_ca2 214 120 1 = true := by decide +kernel
theorem px_d214 : px_okm 214 121 := px_cj (px_cj (px_cj0 214) px_d214_0) px_d214_120
set_option maxRecDepth 100000 in
theorem px_d91_0 : px_ca2 91 0 112 = true := by decide +kernel
theorem px_d91 : px_okm 91 112 := px_cj (px_cj0 91) px_d91_0
set_option maxRecDepth 100000 in
theorem px_d223_0 : px_ca2 223 0 108 = true := by decide +kernel
theorem px_d223 : px_okm 223 108 := px_cj (px_cj0 223) px_d223_0
set_option maxRecDepth 100000 in
theorem px_d14_0 : px_ca2 14 0 96 = true := by decide +kernel
theorem px_d14 : px_okm 14 96 := px_cj (px_cj0 14) px_d14_0
set_option maxRecDepth 100000 in
theorem px_d109_0 : px_ca2 109 0 92 = true := by decide +kernel
theorem px_d109 : px_okm 109 92 := px_cj (px_cj0 109) px_d109_0
set_option maxRecDepth 100000 in
theorem px_d233_0 : px_ca2 233 0 86 = true := by decide +kernel
theorem px_d233 : px_okm 233 86 := px_cj (px_cj0 233) px_d233_0
set_option maxRecDepth 100000 in
theorem px_d48_0 : px_ca2 48 0 77 = true := by decide +kernel
theorem px_d48 : px_okm 48 77 := px_cj (px_cj0 48) px_d48_0
set_option maxRecDepth 100000 in
theorem px_d108_0 : px_ca2 108 0 76 = true := by decide +kernel
theorem px_d108 : px_okm 108 76 := px_cj (px_cj0 108) px_d108_0
set_option maxRecDepth 100000 in
theorem px_d104_0 : px_ca2 104 0 74 = true := by decide +kernel
theorem px_d104 : px_okm 104 74 := px_cj (px_cj0 104) px_d104_0
set_option maxRecDepth 100000 in
theorem px_d171_0 : px_ca2 171 0 68 = true := by decide +kernel
theorem px_d171 : px_okm 171 68 := px_cj (px_cj0 171) px_d171_0
set_option maxRecDepth 100000 in
theorem px_d196_0 : px_ca2 196 0 68 = true := by decide +kernel
theorem px_d196 : px_okm 196 68 := px_cj (px_cj0 196) px_d196_0
set_option maxRecDepth 100000 in
theorem px_d131_0 : px_ca2 131 0 67 = true := by decide +kernel
theorem px_d131 : px_okm 131 67 := px_cj (px_cj0 131) px_d131_0
set_option maxRecDepth 100000 in
theorem px_d43_0 : px_ca2 43 0 63 = true := by decide +kernel
theorem px_d43 : px_okm 43 63 := px_cj (px_cj0 43) px_d43_0
set_option maxRecDepth 100000 in
theorem px_d39_0 : px_ca2 39 0 60 = true := by decide +kernel
theorem px_d39 : px_okm 39 60 := px_cj (px_cj0 39) px_d39_0
set_option maxRecDepth 100000 in
theorem px_d15_0 : px_ca2 15 0 58 = true := by decide +kernel
theorem px_d15 : px_okm 15 58 := px_cj (px_cj0 15) px_d15_0
set_option maxRecDepth 100000 in
theorem px_d33_0 : px_ca2 33 0 54 = true := by decide +kernel
theorem px_d33 : px_okm 33 54 := px_cj (px_cj0 33) px_d33_0
set_option maxRecDepth 100000 in
theorem px_d98_0 : px_ca2 98 0 51 = true := by decide +kernel
theorem px_d98 : px_okm 98 51 := px_cj (px_cj0 98) px_d98_0
set_option maxRecDepth 100000 in
theorem px_d190_0 : px_ca2 190 0 51 = true := by decide +kernel
theorem px_d190 : px_okm 190 51 := px_cj (px_cj0 190) px_d190_0
set_option maxRecDepth 100000 in
theorem px_d134_0 : px_ca2 134 0 50 = true := by decide +kernel
theorem px_d134 : px_okm 134 50 := px_cj (px_cj0 134) px_d134_0
set_option maxRecDepth 100000 in
theorem px_d184_0 : px_ca2 184 0 50 = true := by decide +kernel
theorem px_d184 : px_okm 184 50 := px_cj (px_cj0 184) px_d184_0
set_option maxRecDepth 100000 in
theorem px_d99_0 : px_ca2 99 0 48 = true := by decide +kernel
theorem px_d99 : px_okm 99 48 := px_cj (px_cj0 99) px_d99_0
set_option maxRecDepth 100000 in
theorem px_d135_0 : px_ca2 135 0 45 = true := by decide +kernel
theorem px_d135 : px_okm 135 45 := px_cj (px_cj0 135) px_d135_0
set_option maxRecDepth 100000 in
theorem px_d139_0 : px_ca2 139 0 43 = true := by decide +kernel
theorem px_d139 : px_okm 139 43 := px_cj (px_cj0 139) px_d139_0
set_option maxRecDepth 100000 in
theorem px_d44_0 : px_ca2 44 0 36 = true := by decide +kernel
theorem px_d44 : px_okm 44 36 := px_cj (px_cj0 44) px_d44_0
set_option maxRecDepth 100000 in
theorem px_d97_0 : px_ca2 97 0 35 = true := by decide +kernel
theorem px_d97 : px_okm 97 35 := px_cj (px_cj0 97) px_d97_0
set_option maxRecDepth 100000 in
theorem px_d58_0 : px_ca2 58 0 33 = true := by decide +kernel
theorem px_d58 : px_okm 58 33 := px_cj (px_cj0 58) px_d58_0
set_option maxRecDepth 100000 in
theorem px_d67_0 : px_ca2 67 0 31 = true := by decide +kernel
theorem px_d67 : px_okm 67 31 := px_cj (px_cj0 67) px_d67_0
set_option maxRecDepth 100000 in
theorem px_d177_0 : px_ca2 177 0 30 = true := by decide +kernel
theorem px_d177 : px_okm 177 30 := px_cj (px_cj0 177) px_d177_0
set_option maxRecDepth 100000 in
theorem px_d42_0 : px_ca2 42 0 28 = true := by decide +kernel
theorem px_d42 : px_okm 42 28 := px_cj (px_cj0 42) px_d42_0
set_option maxRecDepth 100000 in
theorem px_d32_0 : px_ca2 32 0 26 = true := by decide +kernel
theorem px_d32 : px_okm 32 26 := px_cj (px_cj0 32) px_d32_0
set_option maxRecDepth 100000 in
theorem px_d90_0 : px_ca2 90 0 24 = true := by decide +kernel
theorem px_d90 : px_okm 90 24 := px_cj (px_cj0 90) px_d90_0
set_option maxRecDepth 100000 in
theorem px_d113_0 : px_ca2 113 0 23 = true := by decide +kernel
theorem px_d113 : px_okm 113 23 := px_cj (px_cj0 113) px_d113_0
set_option maxRecDepth 100000 in
theorem px_d62_0 : px_ca2 62 0 20 = true := by decide +kernel
theorem px_d62 : px_okm 62 20 := px_cj (px_cj0 62) px_d62_0
set_option maxRecDepth 100000 in
theorem px_d85_0 : px_ca2 85 0 19 = true := by decide +kernel
theorem px_d85 : px_okm 85 19 := px_cj (px_cj0 85) px_d85_0
set_option maxRecDepth 100000 in
theorem px_d12_0 : px_ca2 12 0 18 = true := by decide +kernel
theorem px_d12 : px_okm 12 18 := px_cj (px_cj0 12) px_d12_0
set_option maxRecDepth 100000 in
theorem px_d27_0 : px_ca2 27 0 18 = true := by decide +kernel
theorem px_d27 : px_okm 27 18 := px_cj (px_cj0 27) px_d27_0
set_option maxRecDepth 100000 in
theorem px_d52_0 : px_ca2 52 0 15 = true := by decide +kernel
theorem px_d52 : px_okm 52 15 := px_cj (px_cj0 52) px_d52_0
set_option maxRecDepth 100000 in
theorem px_d95_0 : px_ca2 95 0 13 = true := by decide +kernel
theorem px_d95 : px_okm 95 13 := px_cj (px_cj0 95) px_d95_0
set_option maxRecDepth 100000 in
theorem px_d121_0 : px_ca2 121 0 11 = true := by decide +kernel
theorem px_d121 : px_okm 121 11 := px_cj (px_cj0 121) px_d121_0
set_option maxRecDepth 100000 in
theorem px_d206_0 : px_ca2 206 0 9 = true := by decide +kernel
theorem px_d206 : px_okm 206 9 := px_cj (px_cj0 206) px_d206_0
set_option maxRecDepth 100000 in
theorem px_d54_0 : px_ca2 54 0 7 = true := by decide +kernel
theorem px_d54 : px_okm 54 7 := px_cj (px_cj0 54) px_d54_0
set_option maxRecDepth 100000 in
theorem px_d66_0 : px_ca2 66 0 2 = true := by decide +kernel
theorem px_d66 : px_okm 66 2 := px_cj (px_cj0 66) px_d66_0
set_option maxRecDepth 100000 in
theorem px_d78_0 : px_ca2 78 0 2 = true := by decide +kernel
theorem px_d78 : px_okm 78 2 := px_cj (px_cj0 78) px_d78_0
