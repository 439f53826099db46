/-! Rows of the methods. -/
theorem xtb_24 : M_24.2.2.2.2.2.1.all (fun q => xokb xlk_3 M_24 q.1 q.2) = true := by decide +kernel
theorem xmk_24 : xMok M_24 := xmk xlk_3_ok xtb_24 75 375 (by decide +kernel)
theorem xtb_25 : M_25.2.2.2.2.2.1.all (fun q => xokb xlk_9 M_25 q.1 q.2) = true := by decide +kernel
theorem xmk_25 : xMok M_25 := xmk xlk_9_ok xtb_25 86 378 (by decide +kernel)
theorem xtb_26 : M_26.2.2.2.2.2.1.all (fun q => xokb xlk_9 M_26 q.1 q.2) = true := by decide +kernel
theorem xmk_26 : xMok M_26 := xmk xlk_9_ok xtb_26 86 382 (by decide +kernel)
theorem xtb_27 : M_27.2.2.2.2.2.1.all (fun q => xokb xlk_3 M_27 q.1 q.2) = true := by decide +kernel
theorem xmk_27 : xMok M_27 := xmk xlk_3_ok xtb_27 75 386 (by decide +kernel)
theorem xtb_28 : M_28.2.2.2.2.2.1.all (fun q => xokb xlk_3 M_28 q.1 q.2) = true := by decide +kernel
theorem xmk_28 : xMok M_28 := xmk xlk_3_ok xtb_28 75 390 (by decide +kernel)
theorem xtb_29 : M_29.2.2.2.2.2.1.all (fun q => xokb xlk_10 M_29 q.1 q.2) = true := by decide +kernel
theorem xmk_29 : xMok M_29 := xmk xlk_10_ok xtb_29 83 393 (by decide +kernel)
theorem xtb_30 : M_30.2.2.2.2.2.1.all (fun q => xokb xlk_10 M_30 q.1 q.2) = true := by decide +kernel
theorem xmk_30 : xMok M_30 := xmk xlk_10_ok xtb_30 83 396 (by decide +kernel)
theorem xtb_31 : M_31.2.2.2.2.2.1.all (fun q => xokb xlk_2 M_31 q.1 q.2) = true := by decide +kernel
theorem xmk_31 : xMok M_31 := xmk xlk_2_ok xtb_31 72 403 (by decide +kernel)
theorem xtb_32 : M_32.2.2.2.2.2.1.all (fun q => xokb xlk_3 M_32 q.1 q.2) = true := by decide +kernel
theorem xmk_32 : xMok M_32 := xmk xlk_3_ok xtb_32 75 407 (by decide +kernel)
theorem xtb_33 : M_33.2.2.2.2.2.1.all (fun q => xokb xlk_3 M_33 q.1 q.2) = true := by decide +kernel
theorem xmk_33 : xMok M_33 := xmk xlk_3_ok xtb_33 75 411 (by decide +kernel)
theorem xtb_34 : M_34.2.2.2.2.2.1.all (fun q => xokb xlk_3 M_34 q.1 q.2) = true := by decide +kernel
theorem xmk_34 : xMok M_34 := xmk xlk_3_ok xtb_34 75 415 (by decide +kernel)
theorem xtb_35 : M_35.2.2.2.2.2.1.all (fun q => xokb xlk_3 M_35 q.1 q.2) = true := by decide +kernel
theorem xmk_35 : xMok M_35 := xmk xlk_3_ok xtb_35 75 419 (by decide +kernel)
theorem xtb_36 : M_36.2.2.2.2.2.1.all (fun q => xokb xlk_4 M_36 q.1 q.2) = true := by decide +kernel
theorem xmk_36 : xMok M_36 := xmk xlk_4_ok xtb_36 73 423 (by decide +kernel)
theorem xtb_37 : M_37.2.2.2.2.2.1.all (fun q => xokb xlk_6 M_37 q.1 q.2) = true := by decide +kernel
theorem xmk_37 : xMok M_37 := xmk xlk_6_ok xtb_37 82 427 (by decide +kernel)
theorem xtb_38 : M_38.2.2.2.2.2.1.all (fun q => xokb xlk_3 M_38 q.1 q.2) = true := by decide +kernel
theorem xmk_38 : xMok M_38 := xmk xlk_3_ok xtb_38 75 431 (by decide +kernel)
theorem xtb_39 : M_39.2.2.2.2.2.1.all (fun q => xokb xlk_9 M_39 q.1 q.2) = true := by decide +kernel
theorem xmk_39 : xMok M_39 := xmk xlk_9_ok xtb_39 86 434 (by decide +kernel)
theorem xtb_40 : M_40.2.2.2.2.2.1.all (fun q => xokb xlk_4 M_40 q.1 q.2) = true := by decide +kernel
theorem xmk_40 : xMok M_40 := xmk xlk_4_ok xtb_40 73 439 (by decide +kernel)
theorem xtb_41 : M_41.2.2.2.2.2.1.all (fun q => xokb xlk_4 M_41 q.1 q.2) = true := by decide +kernel
theorem xmk_41 : xMok M_41 := xmk xlk_4_ok xtb_41 73 443 (by decide +kernel)
theorem xtb_42 : M_42.2.2.2.2.2.1.all (fun q => xokb xlk_3 M_42 q.1 q.2) = true := by decide +kernel
theorem xmk_42 : xMok M_42 := xmk xlk_3_ok xtb_42 75 447 (by decide +kernel)
theorem xtb_43 : M_43.2.2.2.2.2.1.all (fun q => xokb xlk_4 M_43 q.1 q.2) = true := by decide +kernel
theorem xmk_43 : xMok M_43 := xmk xlk_4_ok xtb_43 73 451 (by decide +kernel)
theorem xtb_44 : M_44.2.2.2.2.2.1.all (fun q => xokb xlk_3 M_44 q.1 q.2) = true := by decide +kernel
theorem xmk_44 : xMok M_44 := xmk xlk_3_ok xtb_44 75 455 (by decide +kernel)
theorem xtb_45 : M_45.2.2.2.2.2.1.all (fun q => xokb xlk_6 M_45 q.1 q.2) = true := by decide +kernel
theorem xmk_45 : xMok M_45 := xmk xlk_6_ok xtb_45 82 458 (by decide +kernel)
theorem xtb_46 : M_46.2.2.2.2.2.1.all (fun q => xokb xlk_5 M_46 q.1 q.2) = true := by decide +kernel
theorem xmk_46 : xMok M_46 := xmk xlk_5_ok xtb_46 87 461 (by decide +kernel)
theorem xtb_47 : M_47.2.2.2.2.2.1.all (fun q => xokb xlk_9 M_47 q.1 q.2) = true := by decide +kernel
theorem xmk_47 : xMok M_47 := xmk xlk_9_ok xtb_47 86 464 (by decide +kernel)
theorem xtb_48 : M_48.2.2.2.2.2.1.all (fun q => xokb xlk_9 M_48 q.1 q.2) = true := by decide +kernel
theorem xmk_48 : xMok M_48 := xmk xlk_9_ok xtb_48 86 468 (by decide +kernel)
theorem xtb_49 : M_49.2.2.2.2.2.1.all (fun q => xokb xlk_9 M_49 q.1 q.2) = true := by decide +kernel
theorem xmk_49 : xMok M_49 := xmk xlk_9_ok xtb_49 86 471 (by decide +kernel)
