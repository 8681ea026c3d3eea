/-! the cases of the law's switch, checked -/
set_option maxRecDepth 20000 in
theorem lq_21 : lc_case 775 0 102 105 292 109 237 = true := by decide +kernel
set_option maxRecDepth 20000 in
theorem lq_22 : lc_case 788 2 106 109 259 110 164 = true := by decide +kernel
set_option maxRecDepth 20000 in
theorem lq_23 : lc_case 821 1 110 113 236 111 233 = true := by decide +kernel
set_option maxRecDepth 20000 in
theorem lq_24 : lc_case 844 2 114 117 203 112 234 = true := by decide +kernel
set_option maxRecDepth 20000 in
theorem lq_25 : lc_case 877 5 118 121 140 113 173 = true := by decide +kernel
set_option maxRecDepth 20000 in
theorem lq_26 : lc_case 940 5 122 125 77 114 241 = true := by decide +kernel
set_option maxRecDepth 20000 in
theorem lq_27 : lc_case 1003 0 126 129 64 115 235 = true := by decide +kernel
set_option maxRecDepth 20000 in
theorem lq_28 : lc_case 1016 1 130 133 41 116 169 = true := by decide +kernel
set_option maxRecDepth 20000 in
theorem lq_29 : lc_case 1039 1 134 137 18 117 242 = true := by decide +kernel
set_option maxRecDepth 20000 in
theorem lq_30 : lc_case 1062 0 138 141 5 89 162 = true := by decide +kernel
