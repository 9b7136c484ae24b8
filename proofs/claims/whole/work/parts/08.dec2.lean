/-! decoding, printed by wip/whole/gen08.py -/
set_option maxRecDepth 100000 in
theorem px_d156_0 : px_ca2 156 0 60 = true := by decide +kernel
set_option maxRecDepth 100000 in
theorem px_d156_60 : px_ca2 156 60 60 = true := by decide +kernel
set_option maxRecDepth 100000 in
theorem px_d156_120 : px_ca2 156 120 60 = true := by decide +kernel
set_option maxRecDepth 100000 in
theorem px_d156_180 : px_ca2 156 180 60 = true := by decide +kernel
set_option maxRecDepth 100000 in
theorem px_d156_240 : px_ca2 156 240 60 = true := by decide +kernel
set_option maxRecDepth 100000 in
theorem px_d156_300 : px_ca2 156 300 22 = true := by decide +kernel
theorem px_d156 : px_okm 156 322 := px_cj (px_cj (px_cj (px_cj (px_cj (px_cj (px_cj0 156) px_d156_0) px_d156_60) px_d156_120) px_d156_180) px_d156_240) px_d156_300
set_option maxRecDepth 100000 in
theorem px_d188_0 : px_ca2 188 0 120 = true := by decide +kernel
set_option maxRecDepth 100000 in
theorem px_d188_120 : px_ca2 188 120 43 = true := by decide +kernel
theorem px_d188 : px_okm 188 163 := px_cj (px_cj (px_cj0 188) px_d188_0) px_d188_120
set_option maxRecDepth 100000 in
theorem px_d175_0 : px_ca2 175 0 120 = true := by decide +kernel
set_option maxRecDepth 100000 in
theorem px_d175_120 : px_ca2 175 120 29 = true := by decide +kernel
theorem px_d175 : px_okm 175 149 := px_cj (px_cj (px_cj0 175) px_d175_0) px_d175_120
set_option maxRecDepth 100000 in
theorem px_d218_0 : px_ca2 218 0 120 = true := by decide +kernel
set_option maxRecDepth 100000 in
theorem px_d218_120 : px_ca2 218 120 18 = true := by decide +kernel
theorem px_d218 : px_okm 218 138 := px_cj (px_cj (px_cj0 218) px_d218_0) px_d218_120
set_option maxRecDepth 100000 in
theorem px_d169_0 : px_ca2 169 0 120 = true := by decide +kernel
set_option maxRecDepth 100000 in
theorem px_d169_120 : px_ca2 169 120 6 = true := by decide +kernel
theorem px_d169 : px_okm 169 126 := px_cj (px_cj (px_cj0 169) px_d169_0) px_d169_120
set_option maxRecDepth 100000 in
theorem px_d122_0 : px_ca2 122 0 116 = true := by decide +kernel
theorem px_d122 : px_okm 122 116 := px_cj (px_cj0 122) px_d122_0
set_option maxRecDepth 100000 in
theorem px_d203_0 : px_ca2 203 0 111 = true := by decide +kernel
theorem px_d203 : px_okm 203 111 := px_cj (px_cj0 203) px_d203_0
set_option maxRecDepth 100000 in
theorem px_d173_0 : px_ca2 173 0 104 = true := by decide +kernel
theorem px_d173 : px_okm 173 104 := px_cj (px_cj0 173) px_d173_0
set_option maxRecDepth 100000 in
theorem px_d34_0 : px_ca2 34 0 94 = true := by decide +kernel
theorem px_d34 : px_okm 34 94 := px_cj (px_cj0 34) px_d34_0
set_option maxRecDepth 100000 in
theorem px_d149_0 : px_ca2 149 0 87 = true := by decide +kernel
theorem px_d149 : px_okm 149 87 := px_cj (px_cj0 149) px_d149_0
set_option maxRecDepth 100000 in
theorem px_d222_0 : px_ca2 222 0 81 = true := by decide +kernel
theorem px_d222 : px_okm 222 81 := px_cj (px_cj0 222) px_d222_0
set_option maxRecDepth 100000 in
theorem px_d123_0 : px_ca2 123 0 77 = true := by decide +kernel
theorem px_d123 : px_okm 123 77 := px_cj (px_cj0 123) px_d123_0
set_option maxRecDepth 100000 in
theorem px_d112_0 : px_ca2 112 0 75 = true := by decide +kernel
theorem px_d112 : px_okm 112 75 := px_cj (px_cj0 112) px_d112_0
set_option maxRecDepth 100000 in
theorem px_d117_0 : px_ca2 117 0 68 = true := by decide +kernel
theorem px_d117 : px_okm 117 68 := px_cj (px_cj0 117) px_d117_0
set_option maxRecDepth 100000 in
theorem px_d191_0 : px_ca2 191 0 68 = true := by decide +kernel
theorem px_d191 : px_okm 191 68 := px_cj (px_cj0 191) px_d191_0
set_option maxRecDepth 100000 in
theorem px_d126_0 : px_ca2 126 0 67 = true := by decide +kernel
theorem px_d126 : px_okm 126 67 := px_cj (px_cj0 126) px_d126_0
set_option maxRecDepth 100000 in
theorem px_d47_0 : px_ca2 47 0 64 = true := by decide +kernel
theorem px_d47 : px_okm 47 64 := px_cj (px_cj0 47) px_d47_0
set_option maxRecDepth 100000 in
theorem px_d120_0 : px_ca2 120 0 62 = true := by decide +kernel
theorem px_d120 : px_okm 120 62 := px_cj (px_cj0 120) px_d120_0
set_option maxRecDepth 100000 in
theorem px_d215_0 : px_ca2 215 0 60 = true := by decide +kernel
theorem px_d215 : px_okm 215 60 := px_cj (px_cj0 215) px_d215_0
set_option maxRecDepth 100000 in
theorem px_d208_0 : px_ca2 208 0 56 = true := by decide +kernel
theorem px_d208 : px_okm 208 56 := px_cj (px_cj0 208) px_d208_0
set_option maxRecDepth 100000 in
theorem px_d153_0 : px_ca2 153 0 53 = true := by decide +kernel
theorem px_d153 : px_okm 153 53 := px_cj (px_cj0 153) px_d153_0
set_option maxRecDepth 100000 in
theorem px_d163_0 : px_ca2 163 0 51 = true := by decide +kernel
theorem px_d163 : px_okm 163 51 := px_cj (px_cj0 163) px_d163_0
set_option maxRecDepth 100000 in
theorem px_d200_0 : px_ca2 200 0 51 = true := by decide +kernel
theorem px_d200 : px_okm 200 51 := px_cj (px_cj0 200) px_d200_0
set_option maxRecDepth 100000 in
theorem px_d179_0 : px_ca2 179 0 50 = true := by decide +kernel
theorem px_d179 : px_okm 179 50 := px_cj (px_cj0 179) px_d179_0
set_option maxRecDepth 100000 in
theorem px_d2_0 : px_ca2 2 0 49 = true := by decide +kernel
theorem px_d2 : px_okm 2 49 := px_cj (px_cj0 2) px_d2_0
set_option maxRecDepth 100000 in
theorem px_d159_0 : px_ca2 159 0 45 = true := by decide +kernel
theorem px_d159 : px_okm 159 45 := px_cj (px_cj0 159) px_d159_0
set_option maxRecDepth 100000 in
theorem px_d4_0 : px_ca2 4 0 42 = true := by decide +kernel
theorem px_d4 : px_okm 4 42 := px_cj (px_cj0 4) px_d4_0
set_option maxRecDepth 100000 in
theorem px_d202_0 : px_ca2 202 0 40 = true := by decide +kernel
theorem px_d202 : px_okm 202 40 := px_cj (px_cj0 202) px_d202_0
set_option maxRecDepth 100000 in
theorem px_d37_0 : px_ca2 37 0 34 = true := by decide +kernel
theorem px_d37 : px_okm 37 34 := px_cj (px_cj0 37) px_d37_0
set_option maxRecDepth 100000 in
theorem px_d81_0 : px_ca2 81 0 32 = true := by decide +kernel
theorem px_d81 : px_okm 81 32 := px_cj (px_cj0 81) px_d81_0
set_option maxRecDepth 100000 in
theorem px_d174_0 : px_ca2 174 0 31 = true := by decide +kernel
theorem px_d174 : px_okm 174 31 := px_cj (px_cj0 174) px_d174_0
set_option maxRecDepth 100000 in
theorem px_d182_0 : px_ca2 182 0 30 = true := by decide +kernel
theorem px_d182 : px_okm 182 30 := px_cj (px_cj0 182) px_d182_0
set_option maxRecDepth 100000 in
theorem px_d75_0 : px_ca2 75 0 28 = true := by decide +kernel
theorem px_d75 : px_okm 75 28 := px_cj (px_cj0 75) px_d75_0
set_option maxRecDepth 100000 in
theorem px_d210_0 : px_ca2 210 0 26 = true := by decide +kernel
theorem px_d210 : px_okm 210 26 := px_cj (px_cj0 210) px_d210_0
set_option maxRecDepth 100000 in
theorem px_d93_0 : px_ca2 93 0 23 = true := by decide +kernel
theorem px_d93 : px_okm 93 23 := px_cj (px_cj0 93) px_d93_0
set_option maxRecDepth 100000 in
theorem px_d133_0 : px_ca2 133 0 21 = true := by decide +kernel
theorem px_d133 : px_okm 133 21 := px_cj (px_cj0 133) px_d133_0
set_option maxRecDepth 100000 in
theorem px_d9_0 : px_ca2 9 0 19 = true := by decide +kernel
theorem px_d9 : px_okm 9 19 := px_cj (px_cj0 9) px_d9_0
set_option maxRecDepth 100000 in
theorem px_d69_0 : px_ca2 69 0 19 = true := by decide +kernel
theorem px_d69 : px_okm 69 19 := px_cj (px_cj0 69) px_d69_0
set_option maxRecDepth 100000 in
theorem px_d144_0 : px_ca2 144 0 19 = true := by decide +kernel
theorem px_d144 : px_okm 144 19 := px_cj (px_cj0 144) px_d144_0
set_option maxRecDepth 100000 in
theorem px_d35_0 : px_ca2 35 0 17 = true := by decide +kernel
theorem px_d35 : px_okm 35 17 := px_cj (px_cj0 35) px_d35_0
set_option maxRecDepth 100000 in
theorem px_d46_0 : px_ca2 46 0 15 = true := by decide +kernel
theorem px_d46 : px_okm 46 15 := px_cj (px_cj0 46) px_d46_0
set_option maxRecDepth 100000 in
theorem px_d63_0 : px_ca2 63 0 13 = true := by decide +kernel
theorem px_d63 : px_okm 63 13 := px_cj (px_cj0 63) px_d63_0
set_option maxRecDepth 100000 in
theorem px_d11_0 : px_ca2 11 0 10 = true := by decide +kernel
theorem px_d11 : px_okm 11 10 := px_cj (px_cj0 11) px_d11_0
set_option maxRecDepth 100000 in
theorem px_d64_0 : px_ca2 64 0 8 = true := by decide +kernel
theorem px_d64 : px_okm 64 8 := px_cj (px_cj0 64) px_d64_0
set_option maxRecDepth 100000 in
theorem px_d55_0 : px_ca2 55 0 7 = true := by decide +kernel
theorem px_d55 : px_okm 55 7 := px_cj (px_cj0 55) px_d55_0
