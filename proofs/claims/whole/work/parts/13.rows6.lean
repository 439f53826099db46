/-! Rows of the methods. -/
theorem xtb_136 : M_136.2.2.2.2.2.1.all (fun q => xokb xlk_8 M_136 q.1 q.2) = true := by decide +kernel
theorem xmk_136 : xMok M_136 := xmk xlk_8_ok xtb_136 76 1051 (by decide +kernel)
theorem xtb_137 : M_137.2.2.2.2.2.1.all (fun q => xokb xlk_8 M_137 q.1 q.2) = true := by decide +kernel
theorem xmk_137 : xMok M_137 := xmk xlk_8_ok xtb_137 76 1055 (by decide +kernel)
theorem xtb_138 : M_138.2.2.2.2.2.1.all (fun q => xokb xlk_8 M_138 q.1 q.2) = true := by decide +kernel
theorem xmk_138 : xMok M_138 := xmk xlk_8_ok xtb_138 76 1059 (by decide +kernel)
theorem xtb_139 : M_139.2.2.2.2.2.1.all (fun q => xokb xlk_8 M_139 q.1 q.2) = true := by decide +kernel
theorem xmk_139 : xMok M_139 := xmk xlk_8_ok xtb_139 76 1063 (by decide +kernel)
theorem xtb_140 : M_140.2.2.2.2.2.1.all (fun q => xokb xlk_8 M_140 q.1 q.2) = true := by decide +kernel
theorem xmk_140 : xMok M_140 := xmk xlk_8_ok xtb_140 76 1067 (by decide +kernel)
theorem xtb_141 : M_141.2.2.2.2.2.1.all (fun q => xokb xlk_8 M_141 q.1 q.2) = true := by decide +kernel
theorem xmk_141 : xMok M_141 := xmk xlk_8_ok xtb_141 76 1071 (by decide +kernel)
theorem xtb_142 : M_142.2.2.2.2.2.1.all (fun q => xokb xlk_8 M_142 q.1 q.2) = true := by decide +kernel
theorem xmk_142 : xMok M_142 := xmk xlk_8_ok xtb_142 76 1075 (by decide +kernel)
theorem xtb_143 : M_143.2.2.2.2.2.1.all (fun q => xokb xlk_8 M_143 q.1 q.2) = true := by decide +kernel
theorem xmk_143 : xMok M_143 := xmk xlk_8_ok xtb_143 76 1079 (by decide +kernel)
theorem xtb_144 : M_144.2.2.2.2.2.1.all (fun q => xokb xlk_8 M_144 q.1 q.2) = true := by decide +kernel
theorem xmk_144 : xMok M_144 := xmk xlk_8_ok xtb_144 76 1082 (by decide +kernel)
theorem xtb_145 : M_145.2.2.2.2.2.1.all (fun q => xokb xlk_8 M_145 q.1 q.2) = true := by decide +kernel
theorem xmk_145 : xMok M_145 := xmk xlk_8_ok xtb_145 76 1086 (by decide +kernel)
theorem xtb_146 : M_146.2.2.2.2.2.1.all (fun q => xokb xlk_8 M_146 q.1 q.2) = true := by decide +kernel
theorem xmk_146 : xMok M_146 := xmk xlk_8_ok xtb_146 76 1090 (by decide +kernel)
theorem xtb_147 : M_147.2.2.2.2.2.1.all (fun q => xokb xlk_8 M_147 q.1 q.2) = true := by decide +kernel
theorem xmk_147 : xMok M_147 := xmk xlk_8_ok xtb_147 76 1094 (by decide +kernel)
theorem xtb_148 : M_148.2.2.2.2.2.1.all (fun q => xokb xlk_8 M_148 q.1 q.2) = true := by decide +kernel
theorem xmk_148 : xMok M_148 := xmk xlk_8_ok xtb_148 76 1098 (by decide +kernel)
theorem xtb_149 : M_149.2.2.2.2.2.1.all (fun q => xokb xlk_8 M_149 q.1 q.2) = true := by decide +kernel
theorem xmk_149 : xMok M_149 := xmk xlk_8_ok xtb_149 76 1102 (by decide +kernel)
theorem xtb_150 : M_150.2.2.2.2.2.1.all (fun q => xokb xlk_8 M_150 q.1 q.2) = true := by decide +kernel
theorem xmk_150 : xMok M_150 := xmk xlk_8_ok xtb_150 76 1106 (by decide +kernel)
