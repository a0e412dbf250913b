/-! every instruction is as the tables of the claim say: 1 -/
set_option maxRecDepth 100000 in
theorem pm_c33 : pm_k33.all (pm_chk 33) = true := by decide +kernel
set_option maxRecDepth 100000 in
theorem pm_c34 : pm_k34.all (pm_chk 34) = true := by decide +kernel
set_option maxRecDepth 100000 in
theorem pm_c35 : pm_k35.all (pm_chk 35) = true := by decide +kernel
set_option maxRecDepth 100000 in
theorem pm_c36 : pm_k36.all (pm_chk 36) = true := by decide +kernel
set_option maxRecDepth 100000 in
theorem pm_c37 : pm_k37.all (pm_chk 37) = true := by decide +kernel
set_option maxRecDepth 100000 in
theorem pm_c38 : pm_k38.all (pm_chk 38) = true := by decide +kernel
set_option maxRecDepth 100000 in
theorem pm_c39_0 : pm_k39_0.all (pm_chk 39) = true := by decide +kernel
set_option maxRecDepth 100000 in
theorem pm_c39_1 : pm_k39_1.all (pm_chk 39) = true := by decide +kernel
theorem pm_c39 : pm_k39.all (pm_chk 39) = true := pm_app pm_c39_0 (pm_c39_1)
set_option maxRecDepth 100000 in
theorem pm_c40 : pm_k40.all (pm_chk 40) = true := by decide +kernel
set_option maxRecDepth 100000 in
theorem pm_c41_0 : pm_k41_0.all (pm_chk 41) = true := by decide +kernel
set_option maxRecDepth 100000 in
theorem pm_c41_1 : pm_k41_1.all (pm_chk 41) = true := by decide +kernel
theorem pm_c41 : pm_k41.all (pm_chk 41) = true := pm_app pm_c41_0 (pm_c41_1)
set_option maxRecDepth 100000 in
theorem pm_c42 : pm_k42.all (pm_chk 42) = true := by decide +kernel
set_option maxRecDepth 100000 in
theorem pm_c43 : pm_k43.all (pm_chk 43) = true := by decide +kernel
set_option maxRecDepth 100000 in
theorem pm_c44 : pm_k44.all (pm_chk 44) = true := by decide +kernel
set_option maxRecDepth 100000 in
theorem pm_c45 : pm_k45.all (pm_chk 45) = true := by decide +kernel
set_option maxRecDepth 100000 in
theorem pm_c46 : pm_k46.all (pm_chk 46) = true := by decide +kernel
set_option maxRecDepth 100000 in
theorem pm_c47 : pm_k47.all (pm_chk 47) = true := by decide +kernel
set_option maxRecDepth 100000 in
theorem pm_c48 : pm_k48.all (pm_chk 48) = true := by decide +kernel
set_option maxRecDepth 100000 in
theorem pm_c49 : pm_k49.all (pm_chk 49) = true := by decide +kernel
set_option maxRecDepth 100000 in
theorem pm_c50 : pm_k50.all (pm_chk 50) = true := by decide +kernel
set_option maxRecDepth 100000 in
theorem pm_c51 : pm_k51.all (pm_chk 51) = true := by decide +kernel
set_option maxRecDepth 100000 in
theorem pm_c52 : pm_k52.all (pm_chk 52) = true := by decide +kernel
set_option maxRecDepth 100000 in
theorem pm_c53 : pm_k53.all (pm_chk 53) = true := by decide +kernel
set_option maxRecDepth 100000 in
theorem pm_c54 : pm_k54.all (pm_chk 54) = true := by decide +kernel
set_option maxRecDepth 100000 in
theorem pm_c55 : pm_k55.all (pm_chk 55) = true := by decide +kernel
set_option maxRecDepth 100000 in
theorem pm_c56 : pm_k56.all (pm_chk 56) = true := by decide +kernel
set_option maxRecDepth 100000 in
theorem pm_c57 : pm_k57.all (pm_chk 57) = true := by decide +kernel
set_option maxRecDepth 100000 in
theorem pm_c58 : pm_k58.all (pm_chk 58) = true := by decide +kernel
set_option maxRecDepth 100000 in
theorem pm_c59 : pm_k59.all (pm_chk 59) = true := by decide +kernel
set_option maxRecDepth 100000 in
theorem pm_c60 : pm_k60.all (pm_chk 60) = true := by decide +kernel
set_option maxRecDepth 100000 in
theorem pm_c61 : pm_k61.all (pm_chk 61) = true := by decide +kernel
set_option maxRecDepth 100000 in
theorem pm_c62 : pm_k62.all (pm_chk 62) = true := by decide +kernel
set_option maxRecDepth 100000 in
theorem pm_c63 : pm_k63.all (pm_chk 63) = true := by decide +kernel
set_option maxRecDepth 100000 in
theorem pm_c64 : pm_k64.all (pm_chk 64) = true := by decide +kernel
set_option maxRecDepth 100000 in
theorem pm_c65 : pm_k65.all (pm_chk 65) = true := by decide +kernel
set_option maxRecDepth 100000 in
theorem pm_c66 : pm_k66.all (pm_chk 66) = true := by decide +kernel
set_option maxRecDepth 100000 in
theorem pm_c67 : pm_k67.all (pm_chk 67) = true := by decide +kernel
set_option maxRecDepth 100000 in
theorem pm_c68 : pm_k68.all (pm_chk 68) = true := by decide +kernel
set_option maxRecDepth 100000 in
theorem pm_c69 : pm_k69.all (pm_chk 69) = true := by decide +kernel
set_option maxRecDepth 100000 in
theorem pm_c70 : pm_k70.all (pm_chk 70) = true := by decide +kernel
set_option maxRecDepth 100000 in
theorem pm_c71 : pm_k71.all (pm_chk 71) = true := by decide +kernel
set_option maxRecDepth 100000 in
theorem pm_c72 : pm_k72.all (pm_chk 72) = true := by decide +kernel
set_option maxRecDepth 100000 in
theorem pm_c73 : pm_k73.all (pm_chk 73) = true := by decide +kernel
set_option maxRecDepth 100000 in
theorem pm_c74 : pm_k74.all (pm_chk 74) = true := by decide +kernel
set_option maxRecDepth 100000 in
theorem pm_c75 : pm_k75.all (pm_chk 75) = true := by decide +kernel
set_option maxRecDepth 100000 in
theorem pm_c76 : pm_k76.all (pm_chk 76) = true := by decide +kernel
