/-! every instruction is as the tables of the claim say: 0 -/
theorem pm_app {m : Nat} {a b : List (Nat × pm_I)} (h1 : a.all (pm_chk m) = true) (h2 : b.all (pm_chk m) = true) : (a ++ b).all (pm_chk m) = true := by rw [List.all_append, h1, h2]; rfl
set_option maxRecDepth 100000 in
theorem pm_c0 : pm_k0.all (pm_chk 0) = true := by decide +kernel
set_option maxRecDepth 100000 in
theorem pm_c1 : pm_k1.all (pm_chk 1) = true := by decide +kernel
set_option maxRecDepth 100000 in
theorem pm_c2 : pm_k2.all (pm_chk 2) = true := by decide +kernel
set_option maxRecDepth 100000 in
theorem pm_c3 : pm_k3.all (pm_chk 3) = true := by decide +kernel
set_option maxRecDepth 100000 in
theorem pm_c4 : pm_k4.all (pm_chk 4) = true := by decide +kernel
set_option maxRecDepth 100000 in
theorem pm_c5 : pm_k5.all (pm_chk 5) = true := by decide +kernel
set_option maxRecDepth 100000 in
theorem pm_c6_0 : pm_k6_0.all (pm_chk 6) = true := by decide +kernel
set_option maxRecDepth 100000 in
theorem pm_c6_1 : pm_k6_1.all (pm_chk 6) = true := by decide +kernel
theorem pm_c6 : pm_k6.all (pm_chk 6) = true := pm_app pm_c6_0 (pm_c6_1)
set_option maxRecDepth 100000 in
theorem pm_c7 : pm_k7.all (pm_chk 7) = true := by decide +kernel
set_option maxRecDepth 100000 in
theorem pm_c8_0 : pm_k8_0.all (pm_chk 8) = true := by decide +kernel
set_option maxRecDepth 100000 in
theorem pm_c8_1 : pm_k8_1.all (pm_chk 8) = true := by decide +kernel
theorem pm_c8 : pm_k8.all (pm_chk 8) = true := pm_app pm_c8_0 (pm_c8_1)
set_option maxRecDepth 100000 in
theorem pm_c9 : pm_k9.all (pm_chk 9) = true := by decide +kernel
set_option maxRecDepth 100000 in
theorem pm_c10 : pm_k10.all (pm_chk 10) = true := by decide +kernel
set_option maxRecDepth 100000 in
theorem pm_c11 : pm_k11.all (pm_chk 11) = true := by decide +kernel
set_option maxRecDepth 100000 in
theorem pm_c12 : pm_k12.all (pm_chk 12) = true := by decide +kernel
set_option maxRecDepth 100000 in
theorem pm_c13 : pm_k13.all (pm_chk 13) = true := by decide +kernel
set_option maxRecDepth 100000 in
theorem pm_c14 : pm_k14.all (pm_chk 14) = true := by decide +kernel
set_option maxRecDepth 100000 in
theorem pm_c15 : pm_k15.all (pm_chk 15) = true := by decide +kernel
set_option maxRecDepth 100000 in
theorem pm_c16_0 : pm_k16_0.all (pm_chk 16) = true := by decide +kernel
set_option maxRecDepth 100000 in
theorem pm_c16_1 : pm_k16_1.all (pm_chk 16) = true := by decide +kernel
theorem pm_c16 : pm_k16.all (pm_chk 16) = true := pm_app pm_c16_0 (pm_c16_1)
set_option maxRecDepth 100000 in
theorem pm_c17 : pm_k17.all (pm_chk 17) = true := by decide +kernel
set_option maxRecDepth 100000 in
theorem pm_c18_0 : pm_k18_0.all (pm_chk 18) = true := by decide +kernel
set_option maxRecDepth 100000 in
theorem pm_c18_1 : pm_k18_1.all (pm_chk 18) = true := by decide +kernel
theorem pm_c18 : pm_k18.all (pm_chk 18) = true := pm_app pm_c18_0 (pm_c18_1)
set_option maxRecDepth 100000 in
theorem pm_c19 : pm_k19.all (pm_chk 19) = true := by decide +kernel
set_option maxRecDepth 100000 in
theorem pm_c20 : pm_k20.all (pm_chk 20) = true := by decide +kernel
set_option maxRecDepth 100000 in
theorem pm_c21 : pm_k21.all (pm_chk 21) = true := by decide +kernel
set_option maxRecDepth 100000 in
theorem pm_c22 : pm_k22.all (pm_chk 22) = true := by decide +kernel
set_option maxRecDepth 100000 in
theorem pm_c23 : pm_k23.all (pm_chk 23) = true := by decide +kernel
set_option maxRecDepth 100000 in
theorem pm_c24 : pm_k24.all (pm_chk 24) = true := by decide +kernel
set_option maxRecDepth 100000 in
theorem pm_c25 : pm_k25.all (pm_chk 25) = true := by decide +kernel
set_option maxRecDepth 100000 in
theorem pm_c26 : pm_k26.all (pm_chk 26) = true := by decide +kernel
set_option maxRecDepth 100000 in
theorem pm_c27_0 : pm_k27_0.all (pm_chk 27) = true := by decide +kernel
set_option maxRecDepth 100000 in
theorem pm_c27_1 : pm_k27_1.all (pm_chk 27) = true := by decide +kernel
theorem pm_c27 : pm_k27.all (pm_chk 27) = true := pm_app pm_c27_0 (pm_c27_1)
set_option maxRecDepth 100000 in
theorem pm_c28 : pm_k28.all (pm_chk 28) = true := by decide +kernel
set_option maxRecDepth 100000 in
theorem pm_c29 : pm_k29.all (pm_chk 29) = true := by decide +kernel
set_option maxRecDepth 100000 in
theorem pm_c30 : pm_k30.all (pm_chk 30) = true := by decide +kernel
set_option maxRecDepth 100000 in
theorem pm_c31_0 : pm_k31_0.all (pm_chk 31) = true := by decide +kernel
set_option maxRecDepth 100000 in
theorem pm_c31_1 : pm_k31_1.all (pm_chk 31) = true := by decide +kernel
theorem pm_c31 : pm_k31.all (pm_chk 31) = true := pm_app pm_c31_0 (pm_c31_1)
set_option maxRecDepth 100000 in
theorem pm_c32 : pm_k32.all (pm_chk 32) = true := by decide +kernel
