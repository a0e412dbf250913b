/-! every instruction is as the tables of the claim say: 2 -/
set_option maxRecDepth 100000 in
theorem pm_c77 : pm_k77.all (pm_chk 77) = true := by decide +kernel
set_option maxRecDepth 100000 in
theorem pm_c78 : pm_k78.all (pm_chk 78) = true := by decide +kernel
set_option maxRecDepth 100000 in
theorem pm_c79 : pm_k79.all (pm_chk 79) = true := by decide +kernel
set_option maxRecDepth 100000 in
theorem pm_c80 : pm_k80.all (pm_chk 80) = true := by decide +kernel
set_option maxRecDepth 100000 in
theorem pm_c81 : pm_k81.all (pm_chk 81) = true := by decide +kernel
set_option maxRecDepth 100000 in
theorem pm_c82 : pm_k82.all (pm_chk 82) = true := by decide +kernel
set_option maxRecDepth 100000 in
theorem pm_c83 : pm_k83.all (pm_chk 83) = true := by decide +kernel
set_option maxRecDepth 100000 in
theorem pm_c84 : pm_k84.all (pm_chk 84) = true := by decide +kernel
set_option maxRecDepth 100000 in
theorem pm_c85 : pm_k85.all (pm_chk 85) = true := by decide +kernel
set_option maxRecDepth 100000 in
theorem pm_c86_0 : pm_k86_0.all (pm_chk 86) = true := by decide +kernel
set_option maxRecDepth 100000 in
theorem pm_c86_1 : pm_k86_1.all (pm_chk 86) = true := by decide +kernel
theorem pm_c86 : pm_k86.all (pm_chk 86) = true := pm_app pm_c86_0 (pm_c86_1)
set_option maxRecDepth 100000 in
theorem pm_c87 : pm_k87.all (pm_chk 87) = true := by decide +kernel
set_option maxRecDepth 100000 in
theorem pm_c88 : pm_k88.all (pm_chk 88) = true := by decide +kernel
set_option maxRecDepth 100000 in
theorem pm_c89 : pm_k89.all (pm_chk 89) = true := by decide +kernel
set_option maxRecDepth 100000 in
theorem pm_c90 : pm_k90.all (pm_chk 90) = true := by decide +kernel
set_option maxRecDepth 100000 in
theorem pm_c91 : pm_k91.all (pm_chk 91) = true := by decide +kernel
set_option maxRecDepth 100000 in
theorem pm_c92 : pm_k92.all (pm_chk 92) = true := by decide +kernel
set_option maxRecDepth 100000 in
theorem pm_c93 : pm_k93.all (pm_chk 93) = true := by decide +kernel
set_option maxRecDepth 100000 in
theorem pm_c94 : pm_k94.all (pm_chk 94) = true := by decide +kernel
set_option maxRecDepth 100000 in
theorem pm_c95 : pm_k95.all (pm_chk 95) = true := by decide +kernel
set_option maxRecDepth 100000 in
theorem pm_c96 : pm_k96.all (pm_chk 96) = true := by decide +kernel
set_option maxRecDepth 100000 in
theorem pm_c97 : pm_k97.all (pm_chk 97) = true := by decide +kernel
set_option maxRecDepth 100000 in
theorem pm_c98 : pm_k98.all (pm_chk 98) = true := by decide +kernel
set_option maxRecDepth 100000 in
theorem pm_c99_0 : pm_k99_0.all (pm_chk 99) = true := by decide +kernel
set_option maxRecDepth 100000 in
theorem pm_c99_1 : pm_k99_1.all (pm_chk 99) = true := by decide +kernel
theorem pm_c99 : pm_k99.all (pm_chk 99) = true := pm_app pm_c99_0 (pm_c99_1)
set_option maxRecDepth 100000 in
theorem pm_c100 : pm_k100.all (pm_chk 100) = true := by decide +kernel
set_option maxRecDepth 100000 in
theorem pm_c101 : pm_k101.all (pm_chk 101) = true := by decide +kernel
set_option maxRecDepth 100000 in
theorem pm_c102 : pm_k102.all (pm_chk 102) = true := by decide +kernel
set_option maxRecDepth 100000 in
theorem pm_c103 : pm_k103.all (pm_chk 103) = true := by decide +kernel
set_option maxRecDepth 100000 in
theorem pm_c104 : pm_k104.all (pm_chk 104) = true := by decide +kernel
set_option maxRecDepth 100000 in
theorem pm_c105_0 : pm_k105_0.all (pm_chk 105) = true := by decide +kernel
set_option maxRecDepth 100000 in
theorem pm_c105_1 : pm_k105_1.all (pm_chk 105) = true := by decide +kernel
theorem pm_c105 : pm_k105.all (pm_chk 105) = true := pm_app pm_c105_0 (pm_c105_1)
set_option maxRecDepth 100000 in
theorem pm_c106 : pm_k106.all (pm_chk 106) = true := by decide +kernel
set_option maxRecDepth 100000 in
theorem pm_c107 : pm_k107.all (pm_chk 107) = true := by decide +kernel
set_option maxRecDepth 100000 in
theorem pm_c108 : pm_k108.all (pm_chk 108) = true := by decide +kernel
set_option maxRecDepth 100000 in
theorem pm_c109 : pm_k109.all (pm_chk 109) = true := by decide +kernel
set_option maxRecDepth 100000 in
theorem pm_c110 : pm_k110.all (pm_chk 110) = true := by decide +kernel
