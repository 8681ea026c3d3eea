/-! the cases of the law's switch, checked -/
set_option maxRecDepth 20000 in
theorem lq_0 : lc_case 172 3 13 17 865 87 160 = true := by decide +kernel
set_option maxRecDepth 20000 in
theorem lq_1 : lc_case 215 2 18 22 832 88 161 = true := by decide +kernel
set_option maxRecDepth 20000 in
theorem lq_2 : lc_case 248 1 23 27 809 90 185 = true := by decide +kernel
set_option maxRecDepth 20000 in
theorem lq_3 : lc_case 271 1 28 31 786 91 191 = true := by decide +kernel
set_option maxRecDepth 20000 in
theorem lq_4 : lc_case 294 1 32 35 763 92 192 = true := by decide +kernel
set_option maxRecDepth 20000 in
theorem lq_5 : lc_case 317 1 36 39 740 93 193 = true := by decide +kernel
set_option maxRecDepth 20000 in
theorem lq_6 : lc_case 340 1 40 43 717 94 194 = true := by decide +kernel
set_option maxRecDepth 20000 in
theorem lq_7 : lc_case 363 2 44 47 684 95 195 = true := by decide +kernel
set_option maxRecDepth 20000 in
theorem lq_8 : lc_case 396 1 48 51 661 96 232 = true := by decide +kernel
set_option maxRecDepth 20000 in
theorem lq_9 : lc_case 419 1 52 55 638 97 190 = true := by decide +kernel
set_option maxRecDepth 20000 in
theorem lq_10 : lc_case 442 1 56 59 615 98 186 = true := by decide +kernel
