/-! Rows of the methods. -/
theorem xtb_50 : M_50.2.2.2.2.2.1.all (fun q => xokb xlk_6 M_50 q.1 q.2) = true := by decide +kernel
theorem xmk_50 : xMok M_50 := xmk xlk_6_ok xtb_50 82 477 (by decide +kernel)
theorem xtb_51 : M_51.2.2.2.2.2.1.all (fun q => xokb xlk_3 M_51 q.1 q.2) = true := by decide +kernel
theorem xmk_51 : xMok M_51 := xmk xlk_3_ok xtb_51 75 481 (by decide +kernel)
theorem xtb_52 : M_52.2.2.2.2.2.1.all (fun q => xokb xlk_5 M_52 q.1 q.2) = true := by decide +kernel
theorem xmk_52 : xMok M_52 := xmk xlk_5_ok xtb_52 87 485 (by decide +kernel)
theorem xtb_53 : M_53.2.2.2.2.2.1.all (fun q => xokb xlk_3 M_53 q.1 q.2) = true := by decide +kernel
theorem xmk_53 : xMok M_53 := xmk xlk_3_ok xtb_53 75 490 (by decide +kernel)
theorem xtb_54 : M_54.2.2.2.2.2.1.all (fun q => xokb xlk_5 M_54 q.1 q.2) = true := by decide +kernel
theorem xmk_54 : xMok M_54 := xmk xlk_5_ok xtb_54 87 493 (by decide +kernel)
theorem xtb_55 : M_55.2.2.2.2.2.1.all (fun q => xokb xlk_5 M_55 q.1 q.2) = true := by decide +kernel
theorem xmk_55 : xMok M_55 := xmk xlk_5_ok xtb_55 87 496 (by decide +kernel)
theorem xtb_56 : M_56.2.2.2.2.2.1.all (fun q => xokb xlk_5 M_56 q.1 q.2) = true := by decide +kernel
theorem xmk_56 : xMok M_56 := xmk xlk_5_ok xtb_56 87 500 (by decide +kernel)
theorem xtb_57 : M_57.2.2.2.2.2.1.all (fun q => xokb xlk_0 M_57 q.1 q.2) = true := by decide +kernel
theorem xmk_57 : xMok M_57 := xmk xlk_0_ok xtb_57 71 504 (by decide +kernel)
theorem xtb_58 : M_58.2.2.2.2.2.1.all (fun q => xokb xlk_0 M_58 q.1 q.2) = true := by decide +kernel
theorem xmk_58 : xMok M_58 := xmk xlk_0_ok xtb_58 71 508 (by decide +kernel)
theorem xtb_59 : M_59.2.2.2.2.2.1.all (fun q => xokb xlk_0 M_59 q.1 q.2) = true := by decide +kernel
theorem xmk_59 : xMok M_59 := xmk xlk_0_ok xtb_59 71 512 (by decide +kernel)
theorem xtb_60 : M_60.2.2.2.2.2.1.all (fun q => xokb xlk_0 M_60 q.1 q.2) = true := by decide +kernel
theorem xmk_60 : xMok M_60 := xmk xlk_0_ok xtb_60 71 516 (by decide +kernel)
theorem xtb_61 : M_61.2.2.2.2.2.1.all (fun q => xokb xlk_0 M_61 q.1 q.2) = true := by decide +kernel
theorem xmk_61 : xMok M_61 := xmk xlk_0_ok xtb_61 71 522 (by decide +kernel)
theorem xtb_62 : M_62.2.2.2.2.2.1.all (fun q => xokb xlk_7 M_62 q.1 q.2) = true := by decide +kernel
theorem xmk_62 : xMok M_62 := xmk xlk_7_ok xtb_62 70 526 (by decide +kernel)
theorem xtb_63 : M_63.2.2.2.2.2.1.all (fun q => xokb xlk_0 M_63 q.1 q.2) = true := by decide +kernel
theorem xmk_63 : xMok M_63 := xmk xlk_0_ok xtb_63 71 532 (by decide +kernel)
theorem xtb_64 : M_64.2.2.2.2.2.1.all (fun q => xokb xlk_2 M_64 q.1 q.2) = true := by decide +kernel
theorem xmk_64 : xMok M_64 := xmk xlk_2_ok xtb_64 72 603 (by decide +kernel)
theorem xtb_65 : M_65.2.2.2.2.2.1.all (fun q => xokb xlk_2 M_65 q.1 q.2) = true := by decide +kernel
theorem xmk_65 : xMok M_65 := xmk xlk_2_ok xtb_65 72 623 (by decide +kernel)
theorem xtb_66 : M_66.2.2.2.2.2.1.all (fun q => xokb xlk_7 M_66 q.1 q.2) = true := by decide +kernel
theorem xmk_66 : xMok M_66 := xmk xlk_7_ok xtb_66 70 626 (by decide +kernel)
theorem xtb_67 : M_67.2.2.2.2.2.1.all (fun q => xokb xlk_0 M_67 q.1 q.2) = true := by decide +kernel
theorem xmk_67 : xMok M_67 := xmk xlk_0_ok xtb_67 71 630 (by decide +kernel)
theorem xtb_68 : M_68.2.2.2.2.2.1.all (fun q => xokb xlk_7 M_68 q.1 q.2) = true := by decide +kernel
theorem xmk_68 : xMok M_68 := xmk xlk_7_ok xtb_68 70 634 (by decide +kernel)
theorem xtb_69 : M_69.2.2.2.2.2.1.all (fun q => xokb xlk_0 M_69 q.1 q.2) = true := by decide +kernel
theorem xmk_69 : xMok M_69 := xmk xlk_0_ok xtb_69 71 638 (by decide +kernel)
theorem xtb_70 : M_70.2.2.2.2.2.1.all (fun q => xokb xlk_2 M_70 q.1 q.2) = true := by decide +kernel
theorem xmk_70 : xMok M_70 := xmk xlk_2_ok xtb_70 72 641 (by decide +kernel)
theorem xtb_71 : M_71.2.2.2.2.2.1.all (fun q => xokb xlk_2 M_71 q.1 q.2) = true := by decide +kernel
theorem xmk_71 : xMok M_71 := xmk xlk_2_ok xtb_71 72 646 (by decide +kernel)
theorem xtb_72 : M_72.2.2.2.2.2.1.all (fun q => xokb xlk_2 M_72 q.1 q.2) = true := by decide +kernel
theorem xmk_72 : xMok M_72 := xmk xlk_2_ok xtb_72 72 650 (by decide +kernel)
theorem xtb_73 : M_73.2.2.2.2.2.1.all (fun q => xokb xlk_2 M_73 q.1 q.2) = true := by decide +kernel
theorem xmk_73 : xMok M_73 := xmk xlk_2_ok xtb_73 72 656 (by decide +kernel)
theorem xtb_74 : M_74.2.2.2.2.2.1.all (fun q => xokb xlk_7 M_74 q.1 q.2) = true := by decide +kernel
theorem xmk_74 : xMok M_74 := xmk xlk_7_ok xtb_74 70 659 (by decide +kernel)
theorem xtb_75 : M_75.2.2.2.2.2.1.all (fun q => xokb xlk_0 M_75 q.1 q.2) = true := by decide +kernel
theorem xmk_75 : xMok M_75 := xmk xlk_0_ok xtb_75 71 663 (by decide +kernel)
theorem xtb_76 : M_76.2.2.2.2.2.1.all (fun q => xokb xlk_1 M_76 q.1 q.2) = true := by decide +kernel
theorem xmk_76 : xMok M_76 := xmk xlk_1_ok xtb_76 74 668 (by decide +kernel)
theorem xtb_77 : M_77.2.2.2.2.2.1.all (fun q => xokb xlk_1 M_77 q.1 q.2) = true := by decide +kernel
theorem xmk_77 : xMok M_77 := xmk xlk_1_ok xtb_77 74 672 (by decide +kernel)
