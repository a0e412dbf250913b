/-! every instruction is as the tables of the claim say: 4 -/
set_option maxRecDepth 100000 in
theorem pm_c139 : pm_k139.all (pm_chk 139) = true := by decide +kernel
set_option maxRecDepth 100000 in
theorem pm_c140 : pm_k140.all (pm_chk 140) = true := by decide +kernel
set_option maxRecDepth 100000 in
theorem pm_c141 : pm_k141.all (pm_chk 141) = true := by decide +kernel
set_option maxRecDepth 100000 in
theorem pm_c142 : pm_k142.all (pm_chk 142) = true := by decide +kernel
set_option maxRecDepth 100000 in
theorem pm_c143 : pm_k143.all (pm_chk 143) = true := by decide +kernel
set_option maxRecDepth 100000 in
theorem pm_c144 : pm_k144.all (pm_chk 144) = true := by decide +kernel
set_option maxRecDepth 100000 in
theorem pm_c145_0 : pm_k145_0.all (pm_chk 145) = true := by decide +kernel
set_option maxRecDepth 100000 in
theorem pm_c145_1 : pm_k145_1.all (pm_chk 145) = true := by decide +kernel
theorem pm_c145 : pm_k145.all (pm_chk 145) = true := pm_app pm_c145_0 (pm_c145_1)
set_option maxRecDepth 100000 in
theorem pm_c146 : pm_k146.all (pm_chk 146) = true := by decide +kernel
set_option maxRecDepth 100000 in
theorem pm_c147 : pm_k147.all (pm_chk 147) = true := by decide +kernel
set_option maxRecDepth 100000 in
theorem pm_c148 : pm_k148.all (pm_chk 148) = true := by decide +kernel
set_option maxRecDepth 100000 in
theorem pm_c149 : pm_k149.all (pm_chk 149) = true := by decide +kernel
set_option maxRecDepth 100000 in
theorem pm_c150 : pm_k150.all (pm_chk 150) = true := by decide +kernel
set_option maxRecDepth 100000 in
theorem pm_c151 : pm_k151.all (pm_chk 151) = true := by decide +kernel
set_option maxRecDepth 100000 in
theorem pm_c152 : pm_k152.all (pm_chk 152) = true := by decide +kernel
set_option maxRecDepth 100000 in
theorem pm_c153_0 : pm_k153_0.all (pm_chk 153) = true := by decide +kernel
set_option maxRecDepth 100000 in
theorem pm_c153_1 : pm_k153_1.all (pm_chk 153) = true := by decide +kernel
theorem pm_c153 : pm_k153.all (pm_chk 153) = true := pm_app pm_c153_0 (pm_c153_1)
set_option maxRecDepth 100000 in
theorem pm_c154 : pm_k154.all (pm_chk 154) = true := by decide +kernel
set_option maxRecDepth 100000 in
theorem pm_c155_0 : pm_k155_0.all (pm_chk 155) = true := by decide +kernel
set_option maxRecDepth 100000 in
theorem pm_c155_1 : pm_k155_1.all (pm_chk 155) = true := by decide +kernel
set_option maxRecDepth 100000 in
theorem pm_c155_2 : pm_k155_2.all (pm_chk 155) = true := by decide +kernel
theorem pm_c155 : pm_k155.all (pm_chk 155) = true := pm_app pm_c155_0 (pm_app pm_c155_1 (pm_c155_2))
set_option maxRecDepth 100000 in
theorem pm_c156 : pm_k156.all (pm_chk 156) = true := by decide +kernel
set_option maxRecDepth 100000 in
theorem pm_c157_0 : pm_k157_0.all (pm_chk 157) = true := by decide +kernel
set_option maxRecDepth 100000 in
theorem pm_c157_1 : pm_k157_1.all (pm_chk 157) = true := by decide +kernel
set_option maxRecDepth 100000 in
theorem pm_c157_2 : pm_k157_2.all (pm_chk 157) = true := by decide +kernel
theorem pm_c157 : pm_k157.all (pm_chk 157) = true := pm_app pm_c157_0 (pm_app pm_c157_1 (pm_c157_2))
set_option maxRecDepth 100000 in
theorem pm_c158 : pm_k158.all (pm_chk 158) = true := by decide +kernel
set_option maxRecDepth 100000 in
theorem pm_c159 : pm_k159.all (pm_chk 159) = true := by decide +kernel
set_option maxRecDepth 100000 in
theorem pm_c160 : pm_k160.all (pm_chk 160) = true := by decide +kernel
set_option maxRecDepth 100000 in
theorem pm_c161 : pm_k161.all (pm_chk 161) = true := by decide +kernel
set_option maxRecDepth 100000 in
theorem pm_c162 : pm_k162.all (pm_chk 162) = true := by decide +kernel
set_option maxRecDepth 100000 in
theorem pm_c163 : pm_k163.all (pm_chk 163) = true := by decide +kernel
set_option maxRecDepth 100000 in
theorem pm_c164 : pm_k164.all (pm_chk 164) = true := by decide +kernel
