/-! every instruction is as the tables of the claim say: 3 -/
set_option maxRecDepth 100000 in
theorem pm_c111 : pm_k111.all (pm_chk 111) = true := by decide +kernel
set_option maxRecDepth 100000 in
theorem pm_c112 : pm_k112.all (pm_chk 112) = true := by decide +kernel
set_option maxRecDepth 100000 in
theorem pm_c113 : pm_k113.all (pm_chk 113) = true := by decide +kernel
set_option maxRecDepth 100000 in
theorem pm_c114 : pm_k114.all (pm_chk 114) = true := by decide +kernel
set_option maxRecDepth 100000 in
theorem pm_c115 : pm_k115.all (pm_chk 115) = true := by decide +kernel
set_option maxRecDepth 100000 in
theorem pm_c116 : pm_k116.all (pm_chk 116) = true := by decide +kernel
set_option maxRecDepth 100000 in
theorem pm_c117 : pm_k117.all (pm_chk 117) = true := by decide +kernel
set_option maxRecDepth 100000 in
theorem pm_c118 : pm_k118.all (pm_chk 118) = true := by decide +kernel
set_option maxRecDepth 100000 in
theorem pm_c119 : pm_k119.all (pm_chk 119) = true := by decide +kernel
set_option maxRecDepth 100000 in
theorem pm_c120 : pm_k120.all (pm_chk 120) = true := by decide +kernel
set_option maxRecDepth 100000 in
theorem pm_c121 : pm_k121.all (pm_chk 121) = true := by decide +kernel
set_option maxRecDepth 100000 in
theorem pm_c122 : pm_k122.all (pm_chk 122) = true := by decide +kernel
set_option maxRecDepth 100000 in
theorem pm_c123_0 : pm_k123_0.all (pm_chk 123) = true := by decide +kernel
set_option maxRecDepth 100000 in
theorem pm_c123_1 : pm_k123_1.all (pm_chk 123) = true := by decide +kernel
theorem pm_c123 : pm_k123.all (pm_chk 123) = true := pm_app pm_c123_0 (pm_c123_1)
set_option maxRecDepth 100000 in
theorem pm_c124_0 : pm_k124_0.all (pm_chk 124) = true := by decide +kernel
set_option maxRecDepth 100000 in
theorem pm_c124_1 : pm_k124_1.all (pm_chk 124) = true := by decide +kernel
theorem pm_c124 : pm_k124.all (pm_chk 124) = true := pm_app pm_c124_0 (pm_c124_1)
set_option maxRecDepth 100000 in
theorem pm_c125 : pm_k125.all (pm_chk 125) = true := by decide +kernel
set_option maxRecDepth 100000 in
theorem pm_c126_0 : pm_k126_0.all (pm_chk 126) = true := by decide +kernel
set_option maxRecDepth 100000 in
theorem pm_c126_1 : pm_k126_1.all (pm_chk 126) = true := by decide +kernel
theorem pm_c126 : pm_k126.all (pm_chk 126) = true := pm_app pm_c126_0 (pm_c126_1)
set_option maxRecDepth 100000 in
theorem pm_c127 : pm_k127.all (pm_chk 127) = true := by decide +kernel
set_option maxRecDepth 100000 in
theorem pm_c128 : pm_k128.all (pm_chk 128) = true := by decide +kernel
set_option maxRecDepth 100000 in
theorem pm_c129 : pm_k129.all (pm_chk 129) = true := by decide +kernel
set_option maxRecDepth 100000 in
theorem pm_c130 : pm_k130.all (pm_chk 130) = true := by decide +kernel
set_option maxRecDepth 100000 in
theorem pm_c131_0 : pm_k131_0.all (pm_chk 131) = true := by decide +kernel
set_option maxRecDepth 100000 in
theorem pm_c131_1 : pm_k131_1.all (pm_chk 131) = true := by decide +kernel
theorem pm_c131 : pm_k131.all (pm_chk 131) = true := pm_app pm_c131_0 (pm_c131_1)
set_option maxRecDepth 100000 in
theorem pm_c132 : pm_k132.all (pm_chk 132) = true := by decide +kernel
set_option maxRecDepth 100000 in
theorem pm_c133 : pm_k133.all (pm_chk 133) = true := by decide +kernel
set_option maxRecDepth 100000 in
theorem pm_c134 : pm_k134.all (pm_chk 134) = true := by decide +kernel
set_option maxRecDepth 100000 in
theorem pm_c135 : pm_k135.all (pm_chk 135) = true := by decide +kernel
set_option maxRecDepth 100000 in
theorem pm_c136_0 : pm_k136_0.all (pm_chk 136) = true := by decide +kernel
set_option maxRecDepth 100000 in
theorem pm_c136_1 : pm_k136_1.all (pm_chk 136) = true := by decide +kernel
theorem pm_c136 : pm_k136.all (pm_chk 136) = true := pm_app pm_c136_0 (pm_c136_1)
set_option maxRecDepth 100000 in
theorem pm_c137 : pm_k137.all (pm_chk 137) = true := by decide +kernel
set_option maxRecDepth 100000 in
theorem pm_c138 : pm_k138.all (pm_chk 138) = true := by decide +kernel
