/-! Rows of the methods. -/
theorem xtb_120 : M_120.2.2.2.2.2.1.all (fun q => xokb xlk_8 M_120 q.1 q.2) = true := by decide +kernel
theorem xmk_120 : xMok M_120 := xmk xlk_8_ok xtb_120 76 990 (by decide +kernel)
theorem xtb_121 : M_121.2.2.2.2.2.1.all (fun q => xokb xlk_8 M_121 q.1 q.2) = true := by decide +kernel
theorem xmk_121 : xMok M_121 := xmk xlk_8_ok xtb_121 76 993 (by decide +kernel)
theorem xtb_122 : M_122.2.2.2.2.2.1.all (fun q => xokb xlk_8 M_122 q.1 q.2) = true := by decide +kernel
theorem xmk_122 : xMok M_122 := xmk xlk_8_ok xtb_122 76 997 (by decide +kernel)
theorem xtb_123 : M_123.2.2.2.2.2.1.all (fun q => xokb xlk_8 M_123 q.1 q.2) = true := by decide +kernel
theorem xmk_123 : xMok M_123 := xmk xlk_8_ok xtb_123 76 1001 (by decide +kernel)
theorem xtb_124 : M_124.2.2.2.2.2.1.all (fun q => xokb xlk_8 M_124 q.1 q.2) = true := by decide +kernel
theorem xmk_124 : xMok M_124 := xmk xlk_8_ok xtb_124 76 1005 (by decide +kernel)
theorem xtb_125 : M_125.2.2.2.2.2.1.all (fun q => xokb xlk_8 M_125 q.1 q.2) = true := by decide +kernel
theorem xmk_125 : xMok M_125 := xmk xlk_8_ok xtb_125 76 1009 (by decide +kernel)
theorem xtb_126 : M_126.2.2.2.2.2.1.all (fun q => xokb xlk_8 M_126 q.1 q.2) = true := by decide +kernel
theorem xmk_126 : xMok M_126 := xmk xlk_8_ok xtb_126 76 1013 (by decide +kernel)
theorem xtb_127 : M_127.2.2.2.2.2.1.all (fun q => xokb xlk_8 M_127 q.1 q.2) = true := by decide +kernel
theorem xmk_127 : xMok M_127 := xmk xlk_8_ok xtb_127 76 1017 (by decide +kernel)
theorem xtb_128 : M_128.2.2.2.2.2.1.all (fun q => xokb xlk_8 M_128 q.1 q.2) = true := by decide +kernel
theorem xmk_128 : xMok M_128 := xmk xlk_8_ok xtb_128 76 1021 (by decide +kernel)
theorem xtb_129 : M_129.2.2.2.2.2.1.all (fun q => xokb xlk_8 M_129 q.1 q.2) = true := by decide +kernel
theorem xmk_129 : xMok M_129 := xmk xlk_8_ok xtb_129 76 1025 (by decide +kernel)
theorem xtb_130 : M_130.2.2.2.2.2.1.all (fun q => xokb xlk_8 M_130 q.1 q.2) = true := by decide +kernel
theorem xmk_130 : xMok M_130 := xmk xlk_8_ok xtb_130 76 1029 (by decide +kernel)
theorem xtb_131 : M_131.2.2.2.2.2.1.all (fun q => xokb xlk_8 M_131 q.1 q.2) = true := by decide +kernel
theorem xmk_131 : xMok M_131 := xmk xlk_8_ok xtb_131 76 1033 (by decide +kernel)
theorem xtb_132 : M_132.2.2.2.2.2.1.all (fun q => xokb xlk_8 M_132 q.1 q.2) = true := by decide +kernel
theorem xmk_132 : xMok M_132 := xmk xlk_8_ok xtb_132 76 1037 (by decide +kernel)
theorem xtb_133 : M_133.2.2.2.2.2.1.all (fun q => xokb xlk_8 M_133 q.1 q.2) = true := by decide +kernel
theorem xmk_133 : xMok M_133 := xmk xlk_8_ok xtb_133 76 1040 (by decide +kernel)
theorem xtb_134 : M_134.2.2.2.2.2.1.all (fun q => xokb xlk_8 M_134 q.1 q.2) = true := by decide +kernel
theorem xmk_134 : xMok M_134 := xmk xlk_8_ok xtb_134 76 1043 (by decide +kernel)
theorem xtb_135 : M_135.2.2.2.2.2.1.all (fun q => xokb xlk_8 M_135 q.1 q.2) = true := by decide +kernel
theorem xmk_135 : xMok M_135 := xmk xlk_8_ok xtb_135 76 1047 (by decide +kernel)
