/-! Rows of the methods. -/
theorem xtb_151 : M_151.2.2.2.2.2.1.all (fun q => xokb xlk_8 M_151 q.1 q.2) = true := by decide +kernel
theorem xmk_151 : xMok M_151 := xmk xlk_8_ok xtb_151 76 1110 (by decide +kernel)
theorem xtb_152 : M_152.2.2.2.2.2.1.all (fun q => xokb xlk_8 M_152 q.1 q.2) = true := by decide +kernel
theorem xmk_152 : xMok M_152 := xmk xlk_8_ok xtb_152 76 1114 (by decide +kernel)
theorem xtb_153 : M_153.2.2.2.2.2.1.all (fun q => xokb xlk_8 M_153 q.1 q.2) = true := by decide +kernel
theorem xmk_153 : xMok M_153 := xmk xlk_8_ok xtb_153 76 1118 (by decide +kernel)
theorem xtb_154 : M_154.2.2.2.2.2.1.all (fun q => xokb xlk_8 M_154 q.1 q.2) = true := by decide +kernel
theorem xmk_154 : xMok M_154 := xmk xlk_8_ok xtb_154 76 1121 (by decide +kernel)
theorem xtb_155 : M_155.2.2.2.2.2.1.all (fun q => xokb xlk_8 M_155 q.1 q.2) = true := by decide +kernel
theorem xmk_155 : xMok M_155 := xmk xlk_8_ok xtb_155 76 1124 (by decide +kernel)
theorem xtb_156 : M_156.2.2.2.2.2.1.all (fun q => xokb xlk_8 M_156 q.1 q.2) = true := by decide +kernel
theorem xmk_156 : xMok M_156 := xmk xlk_8_ok xtb_156 76 1127 (by decide +kernel)
theorem xtb_157 : M_157.2.2.2.2.2.1.all (fun q => xokb xlk_8 M_157 q.1 q.2) = true := by decide +kernel
theorem xmk_157 : xMok M_157 := xmk xlk_8_ok xtb_157 76 1130 (by decide +kernel)
theorem xtb_158 : M_158.2.2.2.2.2.1.all (fun q => xokb xlk_8 M_158 q.1 q.2) = true := by decide +kernel
theorem xmk_158 : xMok M_158 := xmk xlk_8_ok xtb_158 76 1134 (by decide +kernel)
theorem xtb_159 : M_159.2.2.2.2.2.1.all (fun q => xokb xlk_8 M_159 q.1 q.2) = true := by decide +kernel
theorem xmk_159 : xMok M_159 := xmk xlk_8_ok xtb_159 76 1138 (by decide +kernel)
theorem xtb_160 : M_160.2.2.2.2.2.1.all (fun q => xokb xlk_8 M_160 q.1 q.2) = true := by decide +kernel
theorem xmk_160 : xMok M_160 := xmk xlk_8_ok xtb_160 76 1142 (by decide +kernel)
theorem xtb_161 : M_161.2.2.2.2.2.1.all (fun q => xokb xlk_8 M_161 q.1 q.2) = true := by decide +kernel
theorem xmk_161 : xMok M_161 := xmk xlk_8_ok xtb_161 76 1145 (by decide +kernel)
theorem xtb_162 : M_162.2.2.2.2.2.1.all (fun q => xokb xlk_8 M_162 q.1 q.2) = true := by decide +kernel
theorem xmk_162 : xMok M_162 := xmk xlk_8_ok xtb_162 76 1149 (by decide +kernel)
theorem xtb_163 : M_163.2.2.2.2.2.1.all (fun q => xokb xlk_8 M_163 q.1 q.2) = true := by decide +kernel
theorem xmk_163 : xMok M_163 := xmk xlk_8_ok xtb_163 76 1153 (by decide +kernel)
theorem xtb_164 : M_164.2.2.2.2.2.1.all (fun q => xokb xlk_8 M_164 q.1 q.2) = true := by decide +kernel
theorem xmk_164 : xMok M_164 := xmk xlk_8_ok xtb_164 76 1157 (by decide +kernel)
