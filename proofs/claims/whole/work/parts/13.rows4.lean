/-! Rows of the methods. -/
theorem xtb_101 : M_101.2.2.2.2.2.1.all (fun q => xokb xlk_3 M_101 q.1 q.2) = true := by decide +kernel
theorem xmk_101 : xMok M_101 := xmk xlk_3_ok xtb_101 75 789 (by decide +kernel)
theorem xtb_102 : M_102.2.2.2.2.2.1.all (fun q => xokb xlk_7 M_102 q.1 q.2) = true := by decide +kernel
theorem xmk_102 : xMok M_102 := xmk xlk_7_ok xtb_102 70 792 (by decide +kernel)
theorem xtb_103 : M_103.2.2.2.2.2.1.all (fun q => xokb xlk_0 M_103 q.1 q.2) = true := by decide +kernel
theorem xmk_103 : xMok M_103 := xmk xlk_0_ok xtb_103 71 796 (by decide +kernel)
theorem xtb_104 : M_104.2.2.2.2.2.1.all (fun q => xokb xlk_7 M_104 q.1 q.2) = true := by decide +kernel
theorem xmk_104 : xMok M_104 := xmk xlk_7_ok xtb_104 70 800 (by decide +kernel)
theorem xtb_105 : M_105.2.2.2.2.2.1.all (fun q => xokb xlk_0 M_105 q.1 q.2) = true := by decide +kernel
theorem xmk_105 : xMok M_105 := xmk xlk_0_ok xtb_105 71 804 (by decide +kernel)
theorem xtb_106 : M_106.2.2.2.2.2.1.all (fun q => xokb xlk_0 M_106 q.1 q.2) = true := by decide +kernel
theorem xmk_106 : xMok M_106 := xmk xlk_0_ok xtb_106 71 808 (by decide +kernel)
theorem xtb_107 : M_107.2.2.2.2.2.1.all (fun q => xokb xlk_3 M_107 q.1 q.2) = true := by decide +kernel
theorem xmk_107 : xMok M_107 := xmk xlk_3_ok xtb_107 75 812 (by decide +kernel)
theorem xtb_108 : M_108.2.2.2.2.2.1.all (fun q => xokb xlk_3 M_108 q.1 q.2) = true := by decide +kernel
theorem xmk_108 : xMok M_108 := xmk xlk_3_ok xtb_108 75 817 (by decide +kernel)
theorem xtb_109 : M_109.2.2.2.2.2.1.all (fun q => xokb xlk_8 M_109 q.1 q.2) = true := by decide +kernel
theorem xmk_109 : xMok M_109 := xmk xlk_8_ok xtb_109 76 822 (by decide +kernel)
theorem xtb_110 : M_110.2.2.2.2.2.1.all (fun q => xokb xlk_8 M_110 q.1 q.2) = true := by decide +kernel
theorem xmk_110 : xMok M_110 := xmk xlk_8_ok xtb_110 76 951 (by decide +kernel)
theorem xtb_111 : M_111.2.2.2.2.2.1.all (fun q => xokb xlk_8 M_111 q.1 q.2) = true := by decide +kernel
theorem xmk_111 : xMok M_111 := xmk xlk_8_ok xtb_111 76 955 (by decide +kernel)
theorem xtb_112 : M_112.2.2.2.2.2.1.all (fun q => xokb xlk_8 M_112 q.1 q.2) = true := by decide +kernel
theorem xmk_112 : xMok M_112 := xmk xlk_8_ok xtb_112 76 959 (by decide +kernel)
theorem xtb_113 : M_113.2.2.2.2.2.1.all (fun q => xokb xlk_8 M_113 q.1 q.2) = true := by decide +kernel
theorem xmk_113 : xMok M_113 := xmk xlk_8_ok xtb_113 76 963 (by decide +kernel)
theorem xtb_114 : M_114.2.2.2.2.2.1.all (fun q => xokb xlk_8 M_114 q.1 q.2) = true := by decide +kernel
theorem xmk_114 : xMok M_114 := xmk xlk_8_ok xtb_114 76 967 (by decide +kernel)
theorem xtb_115 : M_115.2.2.2.2.2.1.all (fun q => xokb xlk_8 M_115 q.1 q.2) = true := by decide +kernel
theorem xmk_115 : xMok M_115 := xmk xlk_8_ok xtb_115 76 971 (by decide +kernel)
theorem xtb_116 : M_116.2.2.2.2.2.1.all (fun q => xokb xlk_8 M_116 q.1 q.2) = true := by decide +kernel
theorem xmk_116 : xMok M_116 := xmk xlk_8_ok xtb_116 76 975 (by decide +kernel)
theorem xtb_117 : M_117.2.2.2.2.2.1.all (fun q => xokb xlk_8 M_117 q.1 q.2) = true := by decide +kernel
theorem xmk_117 : xMok M_117 := xmk xlk_8_ok xtb_117 76 979 (by decide +kernel)
theorem xtb_118 : M_118.2.2.2.2.2.1.all (fun q => xokb xlk_8 M_118 q.1 q.2) = true := by decide +kernel
theorem xmk_118 : xMok M_118 := xmk xlk_8_ok xtb_118 76 983 (by decide +kernel)
theorem xtb_119 : M_119.2.2.2.2.2.1.all (fun q => xokb xlk_8 M_119 q.1 q.2) = true := by decide +kernel
theorem xmk_119 : xMok M_119 := xmk xlk_8_ok xtb_119 76 987 (by decide +kernel)
