/-! every instruction is as the tables of the claim say: 5 -/
set_option maxRecDepth 100000 in
theorem pm_c165 : pm_k165.all (pm_chk 165) = true := by decide +kernel
set_option maxRecDepth 100000 in
theorem pm_c166 : pm_k166.all (pm_chk 166) = true := by decide +kernel
set_option maxRecDepth 100000 in
theorem pm_c167 : pm_k167.all (pm_chk 167) = true := by decide +kernel
set_option maxRecDepth 100000 in
theorem pm_c168_0 : pm_k168_0.all (pm_chk 168) = true := by decide +kernel
set_option maxRecDepth 100000 in
theorem pm_c168_1 : pm_k168_1.all (pm_chk 168) = true := by decide +kernel
theorem pm_c168 : pm_k168.all (pm_chk 168) = true := pm_app pm_c168_0 (pm_c168_1)
set_option maxRecDepth 100000 in
theorem pm_c169 : pm_k169.all (pm_chk 169) = true := by decide +kernel
set_option maxRecDepth 100000 in
theorem pm_c170 : pm_k170.all (pm_chk 170) = true := by decide +kernel
set_option maxRecDepth 100000 in
theorem pm_c171_0 : pm_k171_0.all (pm_chk 171) = true := by decide +kernel
set_option maxRecDepth 100000 in
theorem pm_c171_1 : pm_k171_1.all (pm_chk 171) = true := by decide +kernel
set_option maxRecDepth 100000 in
theorem pm_c171_2 : pm_k171_2.all (pm_chk 171) = true := by decide +kernel
set_option maxRecDepth 100000 in
theorem pm_c171_3 : pm_k171_3.all (pm_chk 171) = true := by decide +kernel
set_option maxRecDepth 100000 in
theorem pm_c171_4 : pm_k171_4.all (pm_chk 171) = true := by decide +kernel
set_option maxRecDepth 100000 in
theorem pm_c171_5 : pm_k171_5.all (pm_chk 171) = true := by decide +kernel
set_option maxRecDepth 100000 in
theorem pm_c171_6 : pm_k171_6.all (pm_chk 171) = true := by decide +kernel
set_option maxRecDepth 100000 in
theorem pm_c171_7 : pm_k171_7.all (pm_chk 171) = true := by decide +kernel
set_option maxRecDepth 100000 in
theorem pm_c171_8 : pm_k171_8.all (pm_chk 171) = true := by decide +kernel
set_option maxRecDepth 100000 in
theorem pm_c171_9 : pm_k171_9.all (pm_chk 171) = true := by decide +kernel
set_option maxRecDepth 100000 in
theorem pm_c171_10 : pm_k171_10.all (pm_chk 171) = true := by decide +kernel
theorem pm_c171 : pm_k171.all (pm_chk 171) = true := pm_app pm_c171_0 (pm_app pm_c171_1 (pm_app pm_c171_2 (pm_app pm_c171_3 (pm_app pm_c171_4 (pm_app pm_c171_5 (pm_app pm_c171_6 (pm_app pm_c171_7 (pm_app pm_c171_8 (pm_app pm_c171_9 (pm_c171_10))))))))))
