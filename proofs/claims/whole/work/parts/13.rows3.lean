/-! Rows of the methods. -/
theorem xtb_78 : M_78.2.2.2.2.2.1.all (fun q => xokb xlk_1 M_78 q.1 q.2) = true := by decide +kernel
theorem xmk_78 : xMok M_78 := xmk xlk_1_ok xtb_78 74 677 (by decide +kernel)
theorem xtb_79 : M_79.2.2.2.2.2.1.all (fun q => xokb xlk_1 M_79 q.1 q.2) = true := by decide +kernel
theorem xmk_79 : xMok M_79 := xmk xlk_1_ok xtb_79 74 681 (by decide +kernel)
theorem xtb_80 : M_80.2.2.2.2.2.1.all (fun q => xokb xlk_1 M_80 q.1 q.2) = true := by decide +kernel
theorem xmk_80 : xMok M_80 := xmk xlk_1_ok xtb_80 74 686 (by decide +kernel)
theorem xtb_81 : M_81.2.2.2.2.2.1.all (fun q => xokb xlk_1 M_81 q.1 q.2) = true := by decide +kernel
theorem xmk_81 : xMok M_81 := xmk xlk_1_ok xtb_81 74 690 (by decide +kernel)
theorem xtb_82 : M_82.2.2.2.2.2.1.all (fun q => xokb xlk_1 M_82 q.1 q.2) = true := by decide +kernel
theorem xmk_82 : xMok M_82 := xmk xlk_1_ok xtb_82 74 694 (by decide +kernel)
theorem xtb_83 : M_83.2.2.2.2.2.1.all (fun q => xokb xlk_1 M_83 q.1 q.2) = true := by decide +kernel
theorem xmk_83 : xMok M_83 := xmk xlk_1_ok xtb_83 74 698 (by decide +kernel)
theorem xtb_84 : M_84.2.2.2.2.2.1.all (fun q => xokb xlk_1 M_84 q.1 q.2) = true := by decide +kernel
theorem xmk_84 : xMok M_84 := xmk xlk_1_ok xtb_84 74 702 (by decide +kernel)
theorem xtb_85 : M_85.2.2.2.2.2.1.all (fun q => xokb xlk_2 M_85 q.1 q.2) = true := by decide +kernel
theorem xmk_85 : xMok M_85 := xmk xlk_2_ok xtb_85 72 706 (by decide +kernel)
theorem xtb_86 : M_86.2.2.2.2.2.1.all (fun q => xokb xlk_1 M_86 q.1 q.2) = true := by decide +kernel
theorem xmk_86 : xMok M_86 := xmk xlk_1_ok xtb_86 74 710 (by decide +kernel)
theorem xtb_87 : M_87.2.2.2.2.2.1.all (fun q => xokb xlk_1 M_87 q.1 q.2) = true := by decide +kernel
theorem xmk_87 : xMok M_87 := xmk xlk_1_ok xtb_87 74 714 (by decide +kernel)
theorem xtb_88 : M_88.2.2.2.2.2.1.all (fun q => xokb xlk_1 M_88 q.1 q.2) = true := by decide +kernel
theorem xmk_88 : xMok M_88 := xmk xlk_1_ok xtb_88 74 718 (by decide +kernel)
theorem xtb_89 : M_89.2.2.2.2.2.1.all (fun q => xokb xlk_1 M_89 q.1 q.2) = true := by decide +kernel
theorem xmk_89 : xMok M_89 := xmk xlk_1_ok xtb_89 74 722 (by decide +kernel)
theorem xtb_90 : M_90.2.2.2.2.2.1.all (fun q => xokb xlk_1 M_90 q.1 q.2) = true := by decide +kernel
theorem xmk_90 : xMok M_90 := xmk xlk_1_ok xtb_90 74 726 (by decide +kernel)
theorem xtb_91 : M_91.2.2.2.2.2.1.all (fun q => xokb xlk_1 M_91 q.1 q.2) = true := by decide +kernel
theorem xmk_91 : xMok M_91 := xmk xlk_1_ok xtb_91 74 730 (by decide +kernel)
theorem xtb_92 : M_92.2.2.2.2.2.1.all (fun q => xokb xlk_1 M_92 q.1 q.2) = true := by decide +kernel
theorem xmk_92 : xMok M_92 := xmk xlk_1_ok xtb_92 74 734 (by decide +kernel)
theorem xtb_93 : M_93.2.2.2.2.2.1.all (fun q => xokb xlk_1 M_93 q.1 q.2) = true := by decide +kernel
theorem xmk_93 : xMok M_93 := xmk xlk_1_ok xtb_93 74 738 (by decide +kernel)
theorem xtb_94 : M_94.2.2.2.2.2.1.all (fun q => xokb xlk_1 M_94 q.1 q.2) = true := by decide +kernel
theorem xmk_94 : xMok M_94 := xmk xlk_1_ok xtb_94 74 742 (by decide +kernel)
theorem xtb_95 : M_95.2.2.2.2.2.1.all (fun q => xokb xlk_1 M_95 q.1 q.2) = true := by decide +kernel
theorem xmk_95 : xMok M_95 := xmk xlk_1_ok xtb_95 74 746 (by decide +kernel)
theorem xtb_96 : M_96.2.2.2.2.2.1.all (fun q => xokb xlk_1 M_96 q.1 q.2) = true := by decide +kernel
theorem xmk_96 : xMok M_96 := xmk xlk_1_ok xtb_96 74 750 (by decide +kernel)
theorem xtb_97 : M_97.2.2.2.2.2.1.all (fun q => xokb xlk_6 M_97 q.1 q.2) = true := by decide +kernel
theorem xmk_97 : xMok M_97 := xmk xlk_6_ok xtb_97 82 753 (by decide +kernel)
theorem xtb_98 : M_98.2.2.2.2.2.1.all (fun q => xokb xlk_6 M_98 q.1 q.2) = true := by decide +kernel
theorem xmk_98 : xMok M_98 := xmk xlk_6_ok xtb_98 82 757 (by decide +kernel)
theorem xtb_99 : M_99.2.2.2.2.2.1.all (fun q => xokb xlk_7 M_99 q.1 q.2) = true := by decide +kernel
theorem xmk_99 : xMok M_99 := xmk xlk_7_ok xtb_99 70 761 (by decide +kernel)
theorem xtb_100 : M_100.2.2.2.2.2.1.all (fun q => xokb xlk_0 M_100 q.1 q.2) = true := by decide +kernel
theorem xmk_100 : xMok M_100 := xmk xlk_0_ok xtb_100 71 766 (by decide +kernel)
