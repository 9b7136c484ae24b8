/-! decoding, printed by wip/whole/gen08.py -/
set_option maxRecDepth 100000 in
theorem px_d0_0 : px_ca2 0 0 30 = true := by decide +kernel
set_option maxRecDepth 100000 in
theorem px_d0_30 : px_ca2 0 30 30 = true := by decide +kernel
set_option maxRecDepth 100000 in
theorem px_d0_60 : px_ca2 0 60 30 = true := by decide +kernel
set_option maxRecDepth 100000 in
theorem px_d0_90 : px_ca2 0 90 30 = true := by decide +kernel
set_option maxRecDepth 100000 in
theorem px_d0_120 : px_ca2 0 120 30 = true := by decide +kernel
set_option maxRecDepth 100000 in
theorem px_d0_150 : px_ca2 0 150 30 = true := by decide +kernel
set_option maxRecDepth 100000 in
theorem px_d0_180 : px_ca2 0 180 30 = true := by decide +kernel
set_option maxRecDepth 100000 in
theorem px_d0_210 : px_ca2 0 210 30 = true := by decide +kernel
set_option maxRecDepth 100000 in
theorem px_d0_240 : px_ca2 0 240 30 = true := by decide +kernel
set_option maxRecDepth 100000 in
theorem px_d0_270 : px_ca2 0 270 30 = true := by decide +kernel
set_option maxRecDepth 100000 in
theorem px_d0_300 : px_ca2 0 300 30 = true := by decide +kernel
set_option maxRecDepth 100000 in
theorem px_d0_330 : px_ca2 0 330 30 = true := by decide +kernel
set_option maxRecDepth 100000 in
theorem px_d0_360 : px_ca2 0 360 30 = true := by decide +kernel
set_option maxRecDepth 100000 in
theorem px_d0_390 : px_ca2 0 390 30 = true := by decide +kernel
set_option maxRecDepth 100000 in
theorem px_d0_420 : px_ca2 0 420 30 = true := by decide +kernel
set_option maxRecDepth 100000 in
theorem px_d0_450 : px_ca2 0 450 30 = true := by decide +kernel
set_option maxRecDepth 100000 in
theorem px_d0_480 : px_ca2 0 480 30 = true := by decide +kernel
set_option maxRecDepth 100000 in
theorem px_d0_510 : px_ca2 0 510 30 = true := by decide +kernel
set_option maxRecDepth 100000 in
theorem px_d0_540 : px_ca2 0 540 30 = true := by decide +kernel
set_option maxRecDepth 100000 in
theorem px_d0_570 : px_ca2 0 570 30 = true := by decide +kernel
set_option maxRecDepth 100000 in
theorem px_d0_600 : px_ca2 0 600 30 = true := by decide +kernel
set_option maxRecDepth 100000 in
theorem px_d0_630 : px_ca2 0 630 30 = true := by decide +kernel
set_option maxRecDepth 100000 in
theorem px_d0_660 : px_ca2 0 660 30 = true := by decide +kernel
set_option maxRecDepth 100000 in
theorem px_d0_690 : px_ca2 0 690 30 = true := by decide +kernel
set_option maxRecDepth 100000 in
theorem px_d0_720 : px_ca2 0 720 30 = true := by decide +kernel
set_option maxRecDepth 100000 in
theorem px_d0_750 : px_ca2 0 750 30 = true := by decide +kernel
set_option maxRecDepth 100000 in
theorem px_d0_780 : px_ca2 0 780 30 = true := by decide +kernel
set_option maxRecDepth 100000 in
theorem px_d0_810 : px_ca2 0 810 30 = true := by decide +kernel
set_option maxRecDepth 100000 in
theorem px_d0_840 : px_ca2 0 840 30 = true := by decide +kernel
set_option maxRecDepth 100000 in
theorem px_d0_870 : px_ca2 0 870 30 = true := by decide +kernel
set_option maxRecDepth 100000 in
theorem px_d0_900 : px_ca2 0 900 30 = true := by decide +kernel
set_option maxRecDepth 100000 in
theorem px_d0_930 : px_ca2 0 930 30 = true := by decide +kernel
set_option maxRecDepth 100000 in
theorem px_d0_960 : px_ca2 0 960 30 = true := by decide +kernel
set_option maxRecDepth 100000 in
theorem px_d0_990 : px_ca2 0 990 30 = true := by decide +kernel
set_option maxRecDepth 100000 in
theorem px_d0_1020 : px_ca2 0 1020 30 = true := by decide +kernel
set_option maxRecDepth 100000 in
theorem px_d0_1050 : px_ca2 0 1050 28 = true := by decide +kernel
theorem px_d0 : px_okm 0 1078 := px_cj (px_cj (px_cj (px_cj (px_cj (px_cj (px_cj (px_cj (px_cj (px_cj (px_cj (px_cj (px_cj (px_cj (px_cj (px_cj (px_cj (px_cj (px_cj (px_cj (px_cj (px_cj (px_cj (px_cj (px_cj (px_cj (px_cj (px_cj (px_cj (px_cj (px_cj (px_cj (px_cj (px_cj (px_cj (px_cj (px_cj0 0) px_d0_0) px_d0_30) px_d0_60) px_d0_90) px_d0_120) px_d0_150) px_d0_180) px_d0_210) px_d0_240) px_d0_270) px_d0_300) px_d0_330) px_d0_360) px_d0_390) px_d0_420) px_d0_450) px_d0_480) px_d0_510) px_d0_540) px_d0_570) px_d0_600) px_d0_630) px_d0_660) px_d0_690) px_d0_720) px_d0_750) px_d0_780) px_d0_810) px_d0_840) px_d0_870) px_d0_900) px_d0_930) px_d0_960) px_d0_990) px_d0_1020) px_d0_1050
