/-! Rows of the methods. -/
theorem xtb_0 : M_0.2.2.2.2.2.1.all (fun q => xokb xlk_0 M_0 q.1 q.2) = true := by decide +kernel
theorem xmk_0 : xMok M_0 := xmk xlk_0_ok xtb_0 71 92 (by decide +kernel)
theorem xtb_1 : M_1.2.2.2.2.2.1.all (fun q => xokb xlk_2 M_1 q.1 q.2) = true := by decide +kernel
theorem xmk_1 : xMok M_1 := xmk xlk_2_ok xtb_1 72 100 (by decide +kernel)
theorem xtb_2 : M_2.2.2.2.2.2.1.all (fun q => xokb xlk_4 M_2 q.1 q.2) = true := by decide +kernel
theorem xmk_2 : xMok M_2 := xmk xlk_4_ok xtb_2 73 163 (by decide +kernel)
theorem xtb_3 : M_3.2.2.2.2.2.1.all (fun q => xokb xlk_1 M_3 q.1 q.2) = true := by decide +kernel
theorem xmk_3 : xMok M_3 := xmk xlk_1_ok xtb_3 74 179 (by decide +kernel)
theorem xtb_4 : M_4.2.2.2.2.2.1.all (fun q => xokb xlk_3 M_4 q.1 q.2) = true := by decide +kernel
theorem xmk_4 : xMok M_4 := xmk xlk_3_ok xtb_4 75 225 (by decide +kernel)
theorem xtb_5 : M_5.2.2.2.2.2.1.all (fun q => xokb xlk_0 M_5 q.1 q.2) = true := by decide +kernel
theorem xmk_5 : xMok M_5 := xmk xlk_0_ok xtb_5 71 304 (by decide +kernel)
theorem xtb_6 : M_6.2.2.2.2.2.1.all (fun q => xokb xlk_0 M_6 q.1 q.2) = true := by decide +kernel
theorem xmk_6 : xMok M_6 := xmk xlk_0_ok xtb_6 71 308 (by decide +kernel)
theorem xtb_7 : M_7.2.2.2.2.2.1.all (fun q => xokb xlk_2 M_7 q.1 q.2) = true := by decide +kernel
theorem xmk_7 : xMok M_7 := xmk xlk_2_ok xtb_7 72 312 (by decide +kernel)
theorem xtb_8 : M_8.2.2.2.2.2.1.all (fun q => xokb xlk_4 M_8 q.1 q.2) = true := by decide +kernel
theorem xmk_8 : xMok M_8 := xmk xlk_4_ok xtb_8 73 316 (by decide +kernel)
theorem xtb_9 : M_9.2.2.2.2.2.1.all (fun q => xokb xlk_10 M_9 q.1 q.2) = true := by decide +kernel
theorem xmk_9 : xMok M_9 := xmk xlk_10_ok xtb_9 83 319 (by decide +kernel)
theorem xtb_10 : M_10.2.2.2.2.2.1.all (fun q => xokb xlk_3 M_10 q.1 q.2) = true := by decide +kernel
theorem xmk_10 : xMok M_10 := xmk xlk_3_ok xtb_10 75 323 (by decide +kernel)
theorem xtb_11 : M_11.2.2.2.2.2.1.all (fun q => xokb xlk_10 M_11 q.1 q.2) = true := by decide +kernel
theorem xmk_11 : xMok M_11 := xmk xlk_10_ok xtb_11 83 326 (by decide +kernel)
theorem xtb_12 : M_12.2.2.2.2.2.1.all (fun q => xokb xlk_0 M_12 q.1 q.2) = true := by decide +kernel
theorem xmk_12 : xMok M_12 := xmk xlk_0_ok xtb_12 71 330 (by decide +kernel)
theorem xtb_13 : M_13.2.2.2.2.2.1.all (fun q => xokb xlk_0 M_13 q.1 q.2) = true := by decide +kernel
theorem xmk_13 : xMok M_13 := xmk xlk_0_ok xtb_13 71 334 (by decide +kernel)
theorem xtb_14 : M_14.2.2.2.2.2.1.all (fun q => xokb xlk_3 M_14 q.1 q.2) = true := by decide +kernel
theorem xmk_14 : xMok M_14 := xmk xlk_3_ok xtb_14 75 338 (by decide +kernel)
theorem xtb_15 : M_15.2.2.2.2.2.1.all (fun q => xokb xlk_2 M_15 q.1 q.2) = true := by decide +kernel
theorem xmk_15 : xMok M_15 := xmk xlk_2_ok xtb_15 72 342 (by decide +kernel)
theorem xtb_16 : M_16.2.2.2.2.2.1.all (fun q => xokb xlk_6 M_16 q.1 q.2) = true := by decide +kernel
theorem xmk_16 : xMok M_16 := xmk xlk_6_ok xtb_16 82 345 (by decide +kernel)
theorem xtb_17 : M_17.2.2.2.2.2.1.all (fun q => xokb xlk_6 M_17 q.1 q.2) = true := by decide +kernel
theorem xmk_17 : xMok M_17 := xmk xlk_6_ok xtb_17 82 348 (by decide +kernel)
theorem xtb_18 : M_18.2.2.2.2.2.1.all (fun q => xokb xlk_3 M_18 q.1 q.2) = true := by decide +kernel
theorem xmk_18 : xMok M_18 := xmk xlk_3_ok xtb_18 75 352 (by decide +kernel)
theorem xtb_19 : M_19.2.2.2.2.2.1.all (fun q => xokb xlk_3 M_19 q.1 q.2) = true := by decide +kernel
theorem xmk_19 : xMok M_19 := xmk xlk_3_ok xtb_19 75 356 (by decide +kernel)
theorem xtb_20 : M_20.2.2.2.2.2.1.all (fun q => xokb xlk_3 M_20 q.1 q.2) = true := by decide +kernel
theorem xmk_20 : xMok M_20 := xmk xlk_3_ok xtb_20 75 360 (by decide +kernel)
theorem xtb_21 : M_21.2.2.2.2.2.1.all (fun q => xokb xlk_3 M_21 q.1 q.2) = true := by decide +kernel
theorem xmk_21 : xMok M_21 := xmk xlk_3_ok xtb_21 75 364 (by decide +kernel)
theorem xtb_22 : M_22.2.2.2.2.2.1.all (fun q => xokb xlk_3 M_22 q.1 q.2) = true := by decide +kernel
theorem xmk_22 : xMok M_22 := xmk xlk_3_ok xtb_22 75 368 (by decide +kernel)
theorem xtb_23 : M_23.2.2.2.2.2.1.all (fun q => xokb xlk_3 M_23 q.1 q.2) = true := by decide +kernel
theorem xmk_23 : xMok M_23 := xmk xlk_3_ok xtb_23 75 372 (by decide +kernel)
