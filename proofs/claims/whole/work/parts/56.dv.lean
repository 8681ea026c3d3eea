/-! what new makes -/
theorem dv1_0 : e_dv 1 0 = .int 0 := by decide +kernel
theorem dv1_1 : e_dv 1 1 = .int 0 := by decide +kernel
theorem dv1_2 : e_dv 1 2 = .int 0 := by decide +kernel
theorem dv1_3 : e_dv 1 3 = .int 0 := by decide +kernel
theorem dv1_4 : e_dv 1 4 = .int 0 := by decide +kernel
theorem dv1_5 : e_dv 1 5 = .int 0 := by decide +kernel
theorem nf1 : e_nf 1 = 6 := by decide +kernel
theorem dv2_0 : e_dv 2 0 = .int 0 := by decide +kernel
theorem dv2_1 : e_dv 2 1 = .int 0 := by decide +kernel
theorem dv2_2 : e_dv 2 2 = .int 0 := by decide +kernel
theorem dv2_3 : e_dv 2 3 = .int 0 := by decide +kernel
theorem dv2_4 : e_dv 2 4 = .int 0 := by decide +kernel
theorem dv2_5 : e_dv 2 5 = .int 0 := by decide +kernel
theorem dv2_6 : e_dv 2 6 = .int 0 := by decide +kernel
theorem dv2_7 : e_dv 2 7 = .int 0 := by decide +kernel
theorem dv2_8 : e_dv 2 8 = .int 0 := by decide +kernel
theorem dv2_9 : e_dv 2 9 = .int 0 := by decide +kernel
theorem dv2_10 : e_dv 2 10 = .int 0 := by decide +kernel
theorem dv2_11 : e_dv 2 11 = .int 0 := by decide +kernel
theorem dv2_12 : e_dv 2 12 = .int 0 := by decide +kernel
theorem dv2_13 : e_dv 2 13 = .null := by decide +kernel
theorem dv2_14 : e_dv 2 14 = .null := by decide +kernel
theorem dv2_15 : e_dv 2 15 = .null := by decide +kernel
theorem nf2 : e_nf 2 = 16 := by decide +kernel
theorem dv3_0 : e_dv 3 0 = .null := by decide +kernel
theorem dv3_1 : e_dv 3 1 = .int 0 := by decide +kernel
theorem dv3_2 : e_dv 3 2 = .int 0 := by decide +kernel
theorem dv3_3 : e_dv 3 3 = .int 0 := by decide +kernel
theorem dv3_4 : e_dv 3 4 = .int 0 := by decide +kernel
theorem dv3_5 : e_dv 3 5 = .int 0 := by decide +kernel
theorem dv3_6 : e_dv 3 6 = .int 0 := by decide +kernel
theorem dv3_7 : e_dv 3 7 = .int 0 := by decide +kernel
theorem nf3 : e_nf 3 = 8 := by decide +kernel
theorem dv4_0 : e_dv 4 0 = .null := by decide +kernel
theorem dv4_1 : e_dv 4 1 = .int 0 := by decide +kernel
theorem dv4_2 : e_dv 4 2 = .int 0 := by decide +kernel
theorem dv4_3 : e_dv 4 3 = .int 0 := by decide +kernel
theorem nf4 : e_nf 4 = 4 := by decide +kernel
theorem dv5_0 : e_dv 5 0 = .int 0 := by decide +kernel
theorem dv5_1 : e_dv 5 1 = .int 0 := by decide +kernel
theorem dv5_2 : e_dv 5 2 = .int 0 := by decide +kernel
theorem dv5_3 : e_dv 5 3 = .int 0 := by decide +kernel
theorem dv5_4 : e_dv 5 4 = .null := by decide +kernel
theorem nf5 : e_nf 5 = 5 := by decide +kernel
theorem dv6_0 : e_dv 6 0 = .null := by decide +kernel
theorem dv6_1 : e_dv 6 1 = .null := by decide +kernel
theorem dv6_2 : e_dv 6 2 = .null := by decide +kernel
theorem dv6_3 : e_dv 6 3 = .null := by decide +kernel
theorem dv6_4 : e_dv 6 4 = .null := by decide +kernel
theorem dv6_5 : e_dv 6 5 = .int 0 := by decide +kernel
theorem dv6_6 : e_dv 6 6 = .int 0 := by decide +kernel
theorem nf6 : e_nf 6 = 7 := by decide +kernel
theorem dv7_0 : e_dv 7 0 = .int 0 := by decide +kernel
theorem dv7_1 : e_dv 7 1 = .int 0 := by decide +kernel
theorem dv7_2 : e_dv 7 2 = .int 0 := by decide +kernel
theorem dv7_3 : e_dv 7 3 = .int 0 := by decide +kernel
theorem dv7_4 : e_dv 7 4 = .int 0 := by decide +kernel
theorem dv7_5 : e_dv 7 5 = .int 0 := by decide +kernel
theorem dv7_6 : e_dv 7 6 = .int 0 := by decide +kernel
theorem dv7_7 : e_dv 7 7 = .int 0 := by decide +kernel
theorem dv7_8 : e_dv 7 8 = .int 0 := by decide +kernel
theorem dv7_9 : e_dv 7 9 = .int 0 := by decide +kernel
theorem nf7 : e_nf 7 = 10 := by decide +kernel
theorem dv8_0 : e_dv 8 0 = .null := by decide +kernel
theorem dv8_1 : e_dv 8 1 = .int 0 := by decide +kernel
theorem dv8_2 : e_dv 8 2 = .null := by decide +kernel
theorem nf8 : e_nf 8 = 3 := by decide +kernel
theorem dv9_0 : e_dv 9 0 = .int 0 := by decide +kernel
theorem dv9_1 : e_dv 9 1 = .null := by decide +kernel
theorem dv9_2 : e_dv 9 2 = .null := by decide +kernel
theorem dv9_3 : e_dv 9 3 = .int 0 := by decide +kernel
theorem dv9_4 : e_dv 9 4 = .null := by decide +kernel
theorem dv9_5 : e_dv 9 5 = .null := by decide +kernel
theorem nf9 : e_nf 9 = 6 := by decide +kernel
theorem dv10_0 : e_dv 10 0 = .int 0 := by decide +kernel
theorem dv10_1 : e_dv 10 1 = .int 0 := by decide +kernel
theorem dv10_2 : e_dv 10 2 = .int 0 := by decide +kernel
theorem dv10_3 : e_dv 10 3 = .int 0 := by decide +kernel
theorem dv10_4 : e_dv 10 4 = .int 0 := by decide +kernel
theorem dv10_5 : e_dv 10 5 = .int 0 := by decide +kernel
theorem dv10_6 : e_dv 10 6 = .int 0 := by decide +kernel
theorem nf10 : e_nf 10 = 7 := by decide +kernel
theorem dv11_0 : e_dv 11 0 = .int 0 := by decide +kernel
theorem dv11_1 : e_dv 11 1 = .int 0 := by decide +kernel
theorem dv11_2 : e_dv 11 2 = .int 0 := by decide +kernel
theorem dv11_3 : e_dv 11 3 = .int 0 := by decide +kernel
theorem dv11_4 : e_dv 11 4 = .null := by decide +kernel
theorem nf11 : e_nf 11 = 5 := by decide +kernel
theorem dv12_0 : e_dv 12 0 = .null := by decide +kernel
theorem dv12_1 : e_dv 12 1 = .null := by decide +kernel
theorem dv12_2 : e_dv 12 2 = .null := by decide +kernel
theorem dv12_3 : e_dv 12 3 = .null := by decide +kernel
theorem dv12_4 : e_dv 12 4 = .null := by decide +kernel
theorem dv12_5 : e_dv 12 5 = .null := by decide +kernel
theorem dv12_6 : e_dv 12 6 = .null := by decide +kernel
theorem dv12_7 : e_dv 12 7 = .null := by decide +kernel
theorem dv12_8 : e_dv 12 8 = .null := by decide +kernel
theorem dv12_9 : e_dv 12 9 = .null := by decide +kernel
theorem dv12_10 : e_dv 12 10 = .int 0 := by decide +kernel
theorem dv12_11 : e_dv 12 11 = .int 0 := by decide +kernel
theorem nf12 : e_nf 12 = 12 := by decide +kernel
theorem nf0 : e_nf 0 = 3 := by decide +kernel
