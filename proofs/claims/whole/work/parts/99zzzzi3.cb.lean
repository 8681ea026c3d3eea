/-! the cases of the law's switch, checked -/
set_option maxRecDepth 20000 in
theorem lq_11 : lc_case 465 5 60 64 552 99 226 = true := by decide +kernel
set_option maxRecDepth 20000 in
theorem lq_12 : lc_case 528 2 65 68 519 100 227 = true := by decide +kernel
set_option maxRecDepth 20000 in
theorem lq_13 : lc_case 561 3 69 72 476 101 228 = true := by decide +kernel
set_option maxRecDepth 20000 in
theorem lq_14 : lc_case 604 3 73 76 433 102 229 = true := by decide +kernel
set_option maxRecDepth 20000 in
theorem lq_15 : lc_case 647 1 77 80 410 103 222 = true := by decide +kernel
set_option maxRecDepth 20000 in
theorem lq_16 : lc_case 670 1 81 84 387 104 223 = true := by decide +kernel
set_option maxRecDepth 20000 in
theorem lq_17 : lc_case 693 1 85 88 364 105 224 = true := by decide +kernel
set_option maxRecDepth 20000 in
theorem lq_18 : lc_case 716 1 89 92 341 106 167 = true := by decide +kernel
set_option maxRecDepth 20000 in
theorem lq_19 : lc_case 739 0 93 97 328 107 166 = true := by decide +kernel
set_option maxRecDepth 20000 in
theorem lq_20 : lc_case 752 1 98 101 305 108 236 = true := by decide +kernel
