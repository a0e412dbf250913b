/-! the law's loop, out of the single calls -/
def Op_reset : Prop := ∀ (T : Int) (L : Nat) (Z : Nat → Nat → Int) (W : Nat → Nat), Inv T Z W → 0 ≤ T → T ≤ 153600 → ∀ (a : Int), pm_r a → Op T L Z W 75 109 [.int (pm_J a), .null] [.int (pm_J a), .null, .null]
def Op_setDay : Prop := ∀ (T : Int) (L : Nat) (Z : Nat → Nat → Int) (W : Nat → Nat), Inv T Z W → 0 ≤ T → T ≤ 153600 → ∀ (a : Int) (b : Int), pm_r a → pm_r b → Op T L Z W 76 110 [.int (pm_J a), .int (pm_J b)] [.int (pm_J a), .int (pm_J b), .null]
def Op_addFog : Prop := ∀ (T : Int) (L : Nat) (Z : Nat → Nat → Int) (W : Nat → Nat), Inv T Z W → 0 ≤ T → T ≤ 153600 → ∀ (a : Int) (b : Int) (c : Int), pm_r a → pm_r b → pm_r c → Op T L Z W 77 111 [.int (pm_J a), .int (pm_J b), .int (pm_J c)] [.int (pm_J a), .int (pm_J b), .int (pm_J c)]
def Op_addFault : Prop := ∀ (T : Int) (L : Nat) (Z : Nat → Nat → Int) (W : Nat → Nat), Inv T Z W → 0 ≤ T → T ≤ 153600 → ∀ (a : Int) (b : Int) (c : Int), pm_r a → pm_r b → pm_r c → Op T L Z W 78 113 [.int (pm_J a), .int (pm_J b), .int (pm_J c)] [.int (pm_J a), .int (pm_J b), .int (pm_J c)]
def Op_isBlind : Prop := ∀ (T : Int) (L : Nat) (Z : Nat → Nat → Int) (W : Nat → Nat), Inv T Z W → 0 ≤ T → T ≤ 153600 → ∀ (a : Int), pm_r a → Op T L Z W 79 115 [.int (pm_J a)] [.int (pm_J a)]
def Op_linkCount : Prop := ∀ (T : Int) (L : Nat) (Z : Nat → Nat → Int) (W : Nat → Nat), Inv T Z W → 0 ≤ T → T ≤ 153600 → ∀ (a : Int) (b : Int), pm_r a → pm_r b → Op T L Z W 80 116 [.int (pm_J a), .int (pm_J b), .null] [.int (pm_J a), .int (pm_J b)]
def Op_type : Prop := ∀ (T : Int) (L : Nat) (Z : Nat → Nat → Int) (W : Nat → Nat), Inv T Z W → 0 ≤ T → T ≤ 153600 → ∀ (a : Int), (0 ≤ a ∧ a < 65536) → Op T L Z W 81 117 [.int (pm_J a)] [.int (pm_J a)]
def Op_clearText : Prop := ∀ (T : Int) (L : Nat) (Z : Nat → Nat → Int) (W : Nat → Nat), Inv T Z W → 0 ≤ T → T ≤ 153600 → Op T L Z W 82 118 [.null] [.null]
def Op_addWord : Prop := ∀ (T : Int) (L : Nat) (Z : Nat → Nat → Int) (W : Nat → Nat), Inv T Z W → 0 ≤ T → T ≤ 153600 → ∀ (a : Int) (b : Int), pm_r a → pm_r b → Op T L Z W 83 123 [.int (pm_J a), .int (pm_J b)] [.int (pm_J a), .int (pm_J b), .null]
def Op_removeWord : Prop := ∀ (T : Int) (L : Nat) (Z : Nat → Nat → Int) (W : Nat → Nat), Inv T Z W → 0 ≤ T → T ≤ 153600 → Op T L Z W 84 124 [.null] [.null, .null, .null]
def Op_signCount : Prop := ∀ (T : Int) (L : Nat) (Z : Nat → Nat → Int) (W : Nat → Nat), Inv T Z W → 0 ≤ T → T ≤ 153600 → Op T L Z W 85 127 [.null] [.null]
def Op_send : Prop := ∀ (T : Int) (L : Nat) (Z : Nat → Nat → Int) (W : Nat → Nat), Inv T Z W → 0 ≤ T → T ≤ 153600 → ∀ (a : Int) (b : Int) (c : Int), pm_r a → pm_r b → pm_r c → Op T L Z W 86 131 [.int (pm_J a), .int (pm_J b), .int (pm_J c), .null, .null] [.int (pm_J a), .int (pm_J b), .int (pm_J c), .null, .null, .null]
def Op_cancel : Prop := ∀ (T : Int) (L : Nat) (Z : Nat → Nat → Int) (W : Nat → Nat), Inv T Z W → 0 ≤ T → T ≤ 153600 → ∀ (a : Int), pm_r a → Op T L Z W 87 134 [.int (pm_J a), .null] [.int (pm_J a)]
def Op_setPriority : Prop := ∀ (T : Int) (L : Nat) (Z : Nat → Nat → Int) (W : Nat → Nat), Inv T Z W → 0 ≤ T → T ≤ 153600 → ∀ (a : Int) (b : Int), pm_r a → pm_r b → Op T L Z W 88 135 [.int (pm_J a), .int (pm_J b), .null] [.int (pm_J a), .int (pm_J b), .null]
def Op_message : Prop := ∀ (T : Int) (L : Nat) (Z : Nat → Nat → Int) (W : Nat → Nat), Inv T Z W → 0 ≤ T → T ≤ 153600 → ∀ (a : Int) (b : Int), pm_r a → pm_r b → Op T L Z W 89 136 [.int (pm_J a), .int (pm_J b), .null] [.int (pm_J a), .int (pm_J b)]
def Op_copied : Prop := ∀ (T : Int) (L : Nat) (Z : Nat → Nat → Int) (W : Nat → Nat), Inv T Z W → 0 ≤ T → T ≤ 153600 → ∀ (a : Int) (b : Int), pm_r a → pm_r b → Op T L Z W 90 141 [.int (pm_J a), .int (pm_J b), .null, .null] [.int (pm_J a), .int (pm_J b)]
def Op_sign : Prop := ∀ (T : Int) (L : Nat) (Z : Nat → Nat → Int) (W : Nat → Nat), Inv T Z W → 0 ≤ T → T ≤ 153600 → ∀ (a : Int) (b : Int) (c : Int), pm_r a → pm_r b → pm_r c → Op T L Z W 91 142 [.int (pm_J a), .int (pm_J b), .int (pm_J c), .null] [.int (pm_J a), .int (pm_J b), .int (pm_J c)]
def Op_reading : Prop := ∀ (T : Int) (L : Nat) (Z : Nat → Nat → Int) (W : Nat → Nat), Inv T Z W → 0 ≤ T → T ≤ 153600 → ∀ (a : Int) (b : Int) (c : Int), pm_r a → pm_r b → pm_r c → Op T L Z W 92 146 [.int (pm_J a), .int (pm_J b), .int (pm_J c), .null] [.int (pm_J a), .int (pm_J b), .int (pm_J c)]
def Op_step : Prop := ∀ (T : Int) (L : Nat) (Z : Nat → Nat → Int) (W : Nat → Nat), Inv T Z W → 0 ≤ T → T ≤ 153600 → ∀ (a : Int) (b : Int), pm_r a → pm_r b → Op T L Z W 93 147 [.int (pm_J a), .int (pm_J b), .null] [.int (pm_J a), .int (pm_J b)]
def Op_run : Prop := ∀ (T : Int) (L : Nat) (Z : Nat → Nat → Int) (W : Nat → Nat), Inv T Z W → 0 ≤ T → T ≤ 153600 → ∀ (a : Int), pm_r a → Op T L Z W 94 159 [.int (pm_J a), .null] [.int (pm_J a), .null]
def Op_value : Prop := ∀ (T : Int) (L : Nat) (Z : Nat → Nat → Int) (W : Nat → Nat), Inv T Z W → 0 ≤ T → T ≤ 153600 → ∀ (a : Int), pm_r a → Op T L Z W 95 160 [.int (pm_J a)] [.int (pm_J a)]
def Op_shown : Prop := ∀ (T : Int) (L : Nat) (Z : Nat → Nat → Int) (W : Nat → Nat), Inv T Z W → 0 ≤ T → T ≤ 153600 → ∀ (a : Int), pm_r a → Op T L Z W 96 161 [.int (pm_J a)] [.int (pm_J a)]
def Op_task : Prop := ∀ (T : Int) (L : Nat) (Z : Nat → Nat → Int) (W : Nat → Nat), Inv T Z W → 0 ≤ T → T ≤ 153600 → ∀ (a : Int) (b : Int), pm_r a → pm_r b → Op T L Z W 97 162 [.int (pm_J a), .int (pm_J b)] [.int (pm_J a), .int (pm_J b)]
def Op_forecast : Prop := ∀ (T : Int) (L : Nat) (Z : Nat → Nat → Int) (W : Nat → Nat), Inv T Z W → 0 ≤ T → T ≤ 153600 → ∀ (a : Int), pm_r a → Op T L Z W 98 166 [.int (pm_J a)] [.int (pm_J a)]
def Op_effect : Prop := ∀ (T : Int) (L : Nat) (Z : Nat → Nat → Int) (W : Nat → Nat), Inv T Z W → 0 ≤ T → T ≤ 153600 → ∀ (a : Int) (b : Int) (c : Int), pm_r a → pm_r b → pm_r c → Op T L Z W 99 167 [.int (pm_J a), .int (pm_J b), .int (pm_J c), .null, .null] [.int (pm_J a), .int (pm_J b), .int (pm_J c), .null, .null, .null]
def Op_leastMinutes : Prop := ∀ (T : Int) (L : Nat) (Z : Nat → Nat → Int) (W : Nat → Nat), Inv T Z W → 0 ≤ T → T ≤ 153600 → ∀ (a : Int), pm_r a → Op T L Z W 100 168 [.int (pm_J a)] [.int (pm_J a), .null]
def Ops : Prop := Op_reset ∧ Op_setDay ∧ Op_addFog ∧ Op_addFault ∧ Op_isBlind ∧ Op_linkCount ∧ Op_type ∧ Op_clearText ∧ Op_addWord ∧ Op_removeWord ∧ Op_signCount ∧ Op_send ∧ Op_cancel ∧ Op_setPriority ∧ Op_message ∧ Op_copied ∧ Op_sign ∧ Op_reading ∧ Op_step ∧ Op_run ∧ Op_value ∧ Op_shown ∧ Op_task ∧ Op_forecast ∧ Op_effect ∧ Op_leastMinutes
theorem Inv.up {T : Int} {Z : Nat → Nat → Int} {W : Nat → Nat} (h : Inv T Z W) : Inv (T + 300) Z W := by
  obtain ⟨⟨ha, hw, hf, hm, hu, hc, hs, ht⟩, htx, hbk, ho⟩ := h
  refine ⟨⟨?_, hw, hf, ?_, hu, ?_, hs, ht⟩, htx, hbk, ho⟩
  · obtain ⟨a1, a2, a3, a4, a5, a6, a7⟩ := ha
    exact ⟨a1, a2, a3, a4, a5, by omega, a7⟩
  · intro i hi
    obtain ⟨⟨s1, s2, s3⟩, d, m3, m4, m5, m6⟩ := hm i hi
    refine ⟨⟨s1, s2, ?_⟩, ?_, m3, m4, m5, m6⟩
    · obtain ⟨b1, b2, b3, b4, b5, b6, b7, b8, b9⟩ := s3
      exact ⟨b1, b2, b3, b4, b5, b6, b7, b8, by omega⟩
    · obtain ⟨b1, b2, b3, b4, b5, b6, b7, b8, b9⟩ := d
      exact ⟨b1, b2, b3, b4, b5, by omega, b7, b8, by omega⟩
  · intro l k hl hk
    obtain ⟨b1, b2, b3⟩ := hc l k hl hk
    exact ⟨b1, b2, by omega⟩
/-- from the switch of call i on: the loop's head with the next i -/
def law_nx (L : Nat) (X : Nat → Int) (T : Int) (i : Nat) (s : Option pm_R) : Prop := ∃ (Z2 : Nat → Nat → Int) (W2 : Nat → Nat), Inv (T + 300) Z2 W2 ∧ Z2 1000000 = X ∧ s = pm_D (171, 18, [.ref 1000000, .ref 0, .ref 190, .int (pm_J ((i : Int) + 4))], [], pm_hp L Z2 W2)
theorem law_c0 (H : Op_reset) {L : Nat} (hL : L ≤ 2048) {T : Int} {Z : Nat → Nat → Int} {W : Nat → Nat} (hI : Inv T Z W) (hT0 : 0 ≤ T) (hT : T ≤ 153600) (hX : ∀ j, pm_r (Z 1000000 j)) {i : Nat} (hi : (i : Int) + 4 ≤ L) : law_nx L (Z 1000000) T i (pm_D (171, 152, [.ref 1000000, .ref 0, .ref 190, .int (pm_J (i : Int))], [], pm_hp L Z W)) := by
  obtain ⟨v, Z1, W1, Z2, W2, hv, hC, hR, hI2, hS1, hS⟩ := H T L Z W hI hT0 hT (Z 1000000 ((i : Int) + 1).toNat) (hX _)
  refine ⟨Z2, W2, hI2, hS, ?_⟩
  have hZ1 : ∀ j, Z1 1000000 j = Z 1000000 j := fun j => by rw [hS1]
  simp (disch := first | assumption | decide +kernel | omega) only [q_171_152, q_171_153, q_171_154, q_171_155, q_171_156, q_171_157, q_171_158, q_171_161, q_171_162, q_171_163, q_171_164, q_171_165, q_171_166, q_171_167, q_171_170, q_171_173, q_171_174, q_171_922, q_171_925, hC, hR, hZ1, pm_some, Option.toList_some, Option.toList_none, List.cons_append, List.nil_append, Nat.reduceAdd, Nat.reduceMul]
  exact if_pos trivial
theorem law_c1 (H : Op_setDay) {L : Nat} (hL : L ≤ 2048) {T : Int} {Z : Nat → Nat → Int} {W : Nat → Nat} (hI : Inv T Z W) (hT0 : 0 ≤ T) (hT : T ≤ 153600) (hX : ∀ j, pm_r (Z 1000000 j)) {i : Nat} (hi : (i : Int) + 4 ≤ L) : law_nx L (Z 1000000) T i (pm_D (171, 175, [.ref 1000000, .ref 0, .ref 190, .int (pm_J (i : Int))], [], pm_hp L Z W)) := by
  obtain ⟨v, Z1, W1, Z2, W2, hv, hC, hR, hI2, hS1, hS⟩ := H T L Z W hI hT0 hT (Z 1000000 ((i : Int) + 1).toNat) (Z 1000000 ((i : Int) + 2).toNat) (hX _) (hX _)
  refine ⟨Z2, W2, hI2, hS, ?_⟩
  have hZ1 : ∀ j, Z1 1000000 j = Z 1000000 j := fun j => by rw [hS1]
  simp (disch := first | assumption | decide +kernel | omega) only [q_171_175, q_171_176, q_171_177, q_171_178, q_171_179, q_171_180, q_171_181, q_171_182, q_171_183, q_171_184, q_171_185, q_171_186, q_171_189, q_171_190, q_171_191, q_171_192, q_171_193, q_171_194, q_171_195, q_171_196, q_171_197, q_171_198, q_171_199, q_171_200, q_171_203, q_171_206, q_171_207, q_171_922, q_171_925, hC, hR, hZ1, pm_some, Option.toList_some, Option.toList_none, List.cons_append, List.nil_append, Nat.reduceAdd, Nat.reduceMul]
  exact if_pos trivial
theorem law_c2 (H : Op_addFog) {L : Nat} (hL : L ≤ 2048) {T : Int} {Z : Nat → Nat → Int} {W : Nat → Nat} (hI : Inv T Z W) (hT0 : 0 ≤ T) (hT : T ≤ 153600) (hX : ∀ j, pm_r (Z 1000000 j)) {i : Nat} (hi : (i : Int) + 4 ≤ L) : law_nx L (Z 1000000) T i (pm_D (171, 208, [.ref 1000000, .ref 0, .ref 190, .int (pm_J (i : Int))], [], pm_hp L Z W)) := by
  obtain ⟨v, Z1, W1, Z2, W2, hv, hC, hR, hI2, hS1, hS⟩ := H T L Z W hI hT0 hT (Z 1000000 ((i : Int) + 1).toNat) (Z 1000000 ((i : Int) + 2).toNat) (Z 1000000 ((i : Int) + 3).toNat) (hX _) (hX _) (hX _)
  refine ⟨Z2, W2, hI2, hS, ?_⟩
  have hZ1 : ∀ j, Z1 1000000 j = Z 1000000 j := fun j => by rw [hS1]
  simp (disch := first | assumption | decide +kernel | omega) only [q_171_208, q_171_209, q_171_210, q_171_211, q_171_212, q_171_213, q_171_214, q_171_215, q_171_216, q_171_217, q_171_218, q_171_219, q_171_220, q_171_221, q_171_222, q_171_223, q_171_224, q_171_227, q_171_228, q_171_229, q_171_230, q_171_231, q_171_232, q_171_233, q_171_234, q_171_235, q_171_236, q_171_237, q_171_238, q_171_239, q_171_240, q_171_241, q_171_242, q_171_243, q_171_246, q_171_249, q_171_250, q_171_922, q_171_925, hC, hR, hZ1, pm_some, Option.toList_some, Option.toList_none, List.cons_append, List.nil_append, Nat.reduceAdd, Nat.reduceMul]
  exact if_pos trivial
theorem law_c3 (H : Op_addFault) {L : Nat} (hL : L ≤ 2048) {T : Int} {Z : Nat → Nat → Int} {W : Nat → Nat} (hI : Inv T Z W) (hT0 : 0 ≤ T) (hT : T ≤ 153600) (hX : ∀ j, pm_r (Z 1000000 j)) {i : Nat} (hi : (i : Int) + 4 ≤ L) : law_nx L (Z 1000000) T i (pm_D (171, 251, [.ref 1000000, .ref 0, .ref 190, .int (pm_J (i : Int))], [], pm_hp L Z W)) := by
  obtain ⟨v, Z1, W1, Z2, W2, hv, hC, hR, hI2, hS1, hS⟩ := H T L Z W hI hT0 hT (Z 1000000 ((i : Int) + 1).toNat) (Z 1000000 ((i : Int) + 2).toNat) (Z 1000000 ((i : Int) + 3).toNat) (hX _) (hX _) (hX _)
  refine ⟨Z2, W2, hI2, hS, ?_⟩
  have hZ1 : ∀ j, Z1 1000000 j = Z 1000000 j := fun j => by rw [hS1]
  simp (disch := first | assumption | decide +kernel | omega) only [q_171_251, q_171_252, q_171_253, q_171_254, q_171_255, q_171_256, q_171_257, q_171_258, q_171_259, q_171_260, q_171_261, q_171_262, q_171_263, q_171_264, q_171_265, q_171_266, q_171_267, q_171_270, q_171_271, q_171_272, q_171_273, q_171_274, q_171_275, q_171_276, q_171_277, q_171_278, q_171_279, q_171_280, q_171_281, q_171_282, q_171_283, q_171_284, q_171_285, q_171_286, q_171_289, q_171_292, q_171_293, q_171_922, q_171_925, hC, hR, hZ1, pm_some, Option.toList_some, Option.toList_none, List.cons_append, List.nil_append, Nat.reduceAdd, Nat.reduceMul]
  exact if_pos trivial
theorem law_c4 (H : Op_isBlind) {L : Nat} (hL : L ≤ 2048) {T : Int} {Z : Nat → Nat → Int} {W : Nat → Nat} (hI : Inv T Z W) (hT0 : 0 ≤ T) (hT : T ≤ 153600) (hX : ∀ j, pm_r (Z 1000000 j)) {i : Nat} (hi : (i : Int) + 4 ≤ L) : law_nx L (Z 1000000) T i (pm_D (171, 294, [.ref 1000000, .ref 0, .ref 190, .int (pm_J (i : Int))], [], pm_hp L Z W)) := by
  obtain ⟨v, Z1, W1, Z2, W2, hv, hC, hR, hI2, hS1, hS⟩ := H T L Z W hI hT0 hT (Z 1000000 ((i : Int) + 1).toNat) (hX _)
  refine ⟨Z2, W2, hI2, hS, ?_⟩
  have hZ1 : ∀ j, Z1 1000000 j = Z 1000000 j := fun j => by rw [hS1]
  simp (disch := first | assumption | decide +kernel | omega) only [q_171_294, q_171_295, q_171_296, q_171_297, q_171_298, q_171_299, q_171_300, q_171_303, q_171_304, q_171_305, q_171_306, q_171_307, q_171_308, q_171_309, q_171_312, q_171_315, q_171_316, q_171_922, q_171_925, hC, hR, hZ1, pm_some, Option.toList_some, Option.toList_none, List.cons_append, List.nil_append, Nat.reduceAdd, Nat.reduceMul]
  exact if_pos trivial
theorem law_c5 (H : Op_linkCount) {L : Nat} (hL : L ≤ 2048) {T : Int} {Z : Nat → Nat → Int} {W : Nat → Nat} (hI : Inv T Z W) (hT0 : 0 ≤ T) (hT : T ≤ 153600) (hX : ∀ j, pm_r (Z 1000000 j)) {i : Nat} (hi : (i : Int) + 4 ≤ L) : law_nx L (Z 1000000) T i (pm_D (171, 317, [.ref 1000000, .ref 0, .ref 190, .int (pm_J (i : Int))], [], pm_hp L Z W)) := by
  obtain ⟨v, Z1, W1, Z2, W2, hv, hC, hR, hI2, hS1, hS⟩ := H T L Z W hI hT0 hT (Z 1000000 ((i : Int) + 1).toNat) (Z 1000000 ((i : Int) + 2).toNat) (hX _) (hX _)
  refine ⟨Z2, W2, hI2, hS, ?_⟩
  have hZ1 : ∀ j, Z1 1000000 j = Z 1000000 j := fun j => by rw [hS1]
  simp (disch := first | assumption | decide +kernel | omega) only [q_171_317, q_171_318, q_171_319, q_171_320, q_171_321, q_171_322, q_171_323, q_171_324, q_171_325, q_171_326, q_171_327, q_171_328, q_171_331, q_171_332, q_171_333, q_171_334, q_171_335, q_171_336, q_171_337, q_171_338, q_171_339, q_171_340, q_171_341, q_171_342, q_171_345, q_171_348, q_171_349, q_171_922, q_171_925, hC, hR, hZ1, pm_some, Option.toList_some, Option.toList_none, List.cons_append, List.nil_append, Nat.reduceAdd, Nat.reduceMul]
  exact if_pos trivial
theorem law_c6 (H : Op_type) {L : Nat} (hL : L ≤ 2048) {T : Int} {Z : Nat → Nat → Int} {W : Nat → Nat} (hI : Inv T Z W) (hT0 : 0 ≤ T) (hT : T ≤ 153600) (hX : ∀ j, pm_r (Z 1000000 j)) {i : Nat} (hi : (i : Int) + 4 ≤ L) : law_nx L (Z 1000000) T i (pm_D (171, 350, [.ref 1000000, .ref 0, .ref 190, .int (pm_J (i : Int))], [], pm_hp L Z W)) := by
  obtain ⟨v, Z1, W1, Z2, W2, hv, hC, hR, hI2, hS1, hS⟩ := H T L Z W hI hT0 hT (pm_chr (Z 1000000 ((i : Int) + 1).toNat)) (pm_chr_r _)
  refine ⟨Z2, W2, hI2, hS, ?_⟩
  have hZ1 : ∀ j, Z1 1000000 j = Z 1000000 j := fun j => by rw [hS1]
  simp (disch := first | assumption | decide +kernel | omega) only [q_171_350, q_171_351, q_171_352, q_171_353, q_171_354, q_171_355, q_171_356, q_171_357, q_171_360, q_171_361, q_171_362, q_171_363, q_171_364, q_171_365, q_171_366, q_171_367, q_171_370, q_171_373, q_171_374, q_171_922, q_171_925, hC, hR, hZ1, pm_some, Option.toList_some, Option.toList_none, List.cons_append, List.nil_append, Nat.reduceAdd, Nat.reduceMul]
  exact if_pos trivial
theorem law_c7 (H : Op_clearText) {L : Nat} (hL : L ≤ 2048) {T : Int} {Z : Nat → Nat → Int} {W : Nat → Nat} (hI : Inv T Z W) (hT0 : 0 ≤ T) (hT : T ≤ 153600) (hX : ∀ j, pm_r (Z 1000000 j)) {i : Nat} (hi : (i : Int) + 4 ≤ L) : law_nx L (Z 1000000) T i (pm_D (171, 375, [.ref 1000000, .ref 0, .ref 190, .int (pm_J (i : Int))], [], pm_hp L Z W)) := by
  obtain ⟨v, Z1, W1, Z2, W2, hv, hC, hR, hI2, hS1, hS⟩ := H T L Z W hI hT0 hT 
  refine ⟨Z2, W2, hI2, hS, ?_⟩
  have hZ1 : ∀ j, Z1 1000000 j = Z 1000000 j := fun j => by rw [hS1]
  simp (disch := first | assumption | decide +kernel | omega) only [q_171_375, q_171_376, q_171_379, q_171_380, q_171_383, q_171_386, q_171_387, q_171_922, q_171_925, hC, hR, hZ1, pm_some, Option.toList_some, Option.toList_none, List.cons_append, List.nil_append, Nat.reduceAdd, Nat.reduceMul]
  exact if_pos trivial
theorem law_c8 (H : Op_addWord) {L : Nat} (hL : L ≤ 2048) {T : Int} {Z : Nat → Nat → Int} {W : Nat → Nat} (hI : Inv T Z W) (hT0 : 0 ≤ T) (hT : T ≤ 153600) (hX : ∀ j, pm_r (Z 1000000 j)) {i : Nat} (hi : (i : Int) + 4 ≤ L) : law_nx L (Z 1000000) T i (pm_D (171, 388, [.ref 1000000, .ref 0, .ref 190, .int (pm_J (i : Int))], [], pm_hp L Z W)) := by
  obtain ⟨v, Z1, W1, Z2, W2, hv, hC, hR, hI2, hS1, hS⟩ := H T L Z W hI hT0 hT (Z 1000000 ((i : Int) + 1).toNat) (Z 1000000 ((i : Int) + 2).toNat) (hX _) (hX _)
  refine ⟨Z2, W2, hI2, hS, ?_⟩
  have hZ1 : ∀ j, Z1 1000000 j = Z 1000000 j := fun j => by rw [hS1]
  simp (disch := first | assumption | decide +kernel | omega) only [q_171_388, q_171_389, q_171_390, q_171_391, q_171_392, q_171_393, q_171_394, q_171_395, q_171_396, q_171_397, q_171_398, q_171_399, q_171_402, q_171_403, q_171_404, q_171_405, q_171_406, q_171_407, q_171_408, q_171_409, q_171_410, q_171_411, q_171_412, q_171_413, q_171_416, q_171_419, q_171_420, q_171_922, q_171_925, hC, hR, hZ1, pm_some, Option.toList_some, Option.toList_none, List.cons_append, List.nil_append, Nat.reduceAdd, Nat.reduceMul]
  exact if_pos trivial
theorem law_c9 (H : Op_removeWord) {L : Nat} (hL : L ≤ 2048) {T : Int} {Z : Nat → Nat → Int} {W : Nat → Nat} (hI : Inv T Z W) (hT0 : 0 ≤ T) (hT : T ≤ 153600) (hX : ∀ j, pm_r (Z 1000000 j)) {i : Nat} (hi : (i : Int) + 4 ≤ L) : law_nx L (Z 1000000) T i (pm_D (171, 421, [.ref 1000000, .ref 0, .ref 190, .int (pm_J (i : Int))], [], pm_hp L Z W)) := by
  obtain ⟨v, Z1, W1, Z2, W2, hv, hC, hR, hI2, hS1, hS⟩ := H T L Z W hI hT0 hT 
  refine ⟨Z2, W2, hI2, hS, ?_⟩
  have hZ1 : ∀ j, Z1 1000000 j = Z 1000000 j := fun j => by rw [hS1]
  simp (disch := first | assumption | decide +kernel | omega) only [q_171_421, q_171_422, q_171_425, q_171_426, q_171_429, q_171_432, q_171_433, q_171_922, q_171_925, hC, hR, hZ1, pm_some, Option.toList_some, Option.toList_none, List.cons_append, List.nil_append, Nat.reduceAdd, Nat.reduceMul]
  exact if_pos trivial
theorem law_c10 (H : Op_signCount) {L : Nat} (hL : L ≤ 2048) {T : Int} {Z : Nat → Nat → Int} {W : Nat → Nat} (hI : Inv T Z W) (hT0 : 0 ≤ T) (hT : T ≤ 153600) (hX : ∀ j, pm_r (Z 1000000 j)) {i : Nat} (hi : (i : Int) + 4 ≤ L) : law_nx L (Z 1000000) T i (pm_D (171, 434, [.ref 1000000, .ref 0, .ref 190, .int (pm_J (i : Int))], [], pm_hp L Z W)) := by
  obtain ⟨v, Z1, W1, Z2, W2, hv, hC, hR, hI2, hS1, hS⟩ := H T L Z W hI hT0 hT 
  refine ⟨Z2, W2, hI2, hS, ?_⟩
  have hZ1 : ∀ j, Z1 1000000 j = Z 1000000 j := fun j => by rw [hS1]
  simp (disch := first | assumption | decide +kernel | omega) only [q_171_434, q_171_435, q_171_438, q_171_439, q_171_442, q_171_445, q_171_446, q_171_922, q_171_925, hC, hR, hZ1, pm_some, Option.toList_some, Option.toList_none, List.cons_append, List.nil_append, Nat.reduceAdd, Nat.reduceMul]
  exact if_pos trivial
theorem law_c11 (H : Op_send) {L : Nat} (hL : L ≤ 2048) {T : Int} {Z : Nat → Nat → Int} {W : Nat → Nat} (hI : Inv T Z W) (hT0 : 0 ≤ T) (hT : T ≤ 153600) (hX : ∀ j, pm_r (Z 1000000 j)) {i : Nat} (hi : (i : Int) + 4 ≤ L) : law_nx L (Z 1000000) T i (pm_D (171, 447, [.ref 1000000, .ref 0, .ref 190, .int (pm_J (i : Int))], [], pm_hp L Z W)) := by
  obtain ⟨v, Z1, W1, Z2, W2, hv, hC, hR, hI2, hS1, hS⟩ := H T L Z W hI hT0 hT (Z 1000000 ((i : Int) + 1).toNat) (Z 1000000 ((i : Int) + 2).toNat) (Z 1000000 ((i : Int) + 3).toNat) (hX _) (hX _) (hX _)
  refine ⟨Z2, W2, hI2, hS, ?_⟩
  have hZ1 : ∀ j, Z1 1000000 j = Z 1000000 j := fun j => by rw [hS1]
  simp (disch := first | assumption | decide +kernel | omega) only [q_171_447, q_171_448, q_171_449, q_171_450, q_171_451, q_171_452, q_171_453, q_171_454, q_171_455, q_171_456, q_171_457, q_171_458, q_171_459, q_171_460, q_171_461, q_171_462, q_171_463, q_171_466, q_171_467, q_171_468, q_171_469, q_171_470, q_171_471, q_171_472, q_171_473, q_171_474, q_171_475, q_171_476, q_171_477, q_171_478, q_171_479, q_171_480, q_171_481, q_171_482, q_171_485, q_171_488, q_171_489, q_171_922, q_171_925, hC, hR, hZ1, pm_some, Option.toList_some, Option.toList_none, List.cons_append, List.nil_append, Nat.reduceAdd, Nat.reduceMul]
  exact if_pos trivial
theorem law_c12 (H : Op_cancel) {L : Nat} (hL : L ≤ 2048) {T : Int} {Z : Nat → Nat → Int} {W : Nat → Nat} (hI : Inv T Z W) (hT0 : 0 ≤ T) (hT : T ≤ 153600) (hX : ∀ j, pm_r (Z 1000000 j)) {i : Nat} (hi : (i : Int) + 4 ≤ L) : law_nx L (Z 1000000) T i (pm_D (171, 490, [.ref 1000000, .ref 0, .ref 190, .int (pm_J (i : Int))], [], pm_hp L Z W)) := by
  obtain ⟨v, Z1, W1, Z2, W2, hv, hC, hR, hI2, hS1, hS⟩ := H T L Z W hI hT0 hT (Z 1000000 ((i : Int) + 1).toNat) (hX _)
  refine ⟨Z2, W2, hI2, hS, ?_⟩
  have hZ1 : ∀ j, Z1 1000000 j = Z 1000000 j := fun j => by rw [hS1]
  simp (disch := first | assumption | decide +kernel | omega) only [q_171_490, q_171_491, q_171_492, q_171_493, q_171_494, q_171_495, q_171_496, q_171_499, q_171_500, q_171_501, q_171_502, q_171_503, q_171_504, q_171_505, q_171_508, q_171_511, q_171_512, q_171_922, q_171_925, hC, hR, hZ1, pm_some, Option.toList_some, Option.toList_none, List.cons_append, List.nil_append, Nat.reduceAdd, Nat.reduceMul]
  exact if_pos trivial
theorem law_c13 (H : Op_setPriority) {L : Nat} (hL : L ≤ 2048) {T : Int} {Z : Nat → Nat → Int} {W : Nat → Nat} (hI : Inv T Z W) (hT0 : 0 ≤ T) (hT : T ≤ 153600) (hX : ∀ j, pm_r (Z 1000000 j)) {i : Nat} (hi : (i : Int) + 4 ≤ L) : law_nx L (Z 1000000) T i (pm_D (171, 513, [.ref 1000000, .ref 0, .ref 190, .int (pm_J (i : Int))], [], pm_hp L Z W)) := by
  obtain ⟨v, Z1, W1, Z2, W2, hv, hC, hR, hI2, hS1, hS⟩ := H T L Z W hI hT0 hT (Z 1000000 ((i : Int) + 1).toNat) (Z 1000000 ((i : Int) + 2).toNat) (hX _) (hX _)
  refine ⟨Z2, W2, hI2, hS, ?_⟩
  have hZ1 : ∀ j, Z1 1000000 j = Z 1000000 j := fun j => by rw [hS1]
  simp (disch := first | assumption | decide +kernel | omega) only [q_171_513, q_171_514, q_171_515, q_171_516, q_171_517, q_171_518, q_171_519, q_171_520, q_171_521, q_171_522, q_171_523, q_171_524, q_171_527, q_171_528, q_171_529, q_171_530, q_171_531, q_171_532, q_171_533, q_171_534, q_171_535, q_171_536, q_171_537, q_171_538, q_171_541, q_171_544, q_171_545, q_171_922, q_171_925, hC, hR, hZ1, pm_some, Option.toList_some, Option.toList_none, List.cons_append, List.nil_append, Nat.reduceAdd, Nat.reduceMul]
  exact if_pos trivial
theorem law_c14 (H : Op_message) {L : Nat} (hL : L ≤ 2048) {T : Int} {Z : Nat → Nat → Int} {W : Nat → Nat} (hI : Inv T Z W) (hT0 : 0 ≤ T) (hT : T ≤ 153600) (hX : ∀ j, pm_r (Z 1000000 j)) {i : Nat} (hi : (i : Int) + 4 ≤ L) : law_nx L (Z 1000000) T i (pm_D (171, 546, [.ref 1000000, .ref 0, .ref 190, .int (pm_J (i : Int))], [], pm_hp L Z W)) := by
  obtain ⟨v, Z1, W1, Z2, W2, hv, hC, hR, hI2, hS1, hS⟩ := H T L Z W hI hT0 hT (Z 1000000 ((i : Int) + 1).toNat) (Z 1000000 ((i : Int) + 2).toNat) (hX _) (hX _)
  refine ⟨Z2, W2, hI2, hS, ?_⟩
  have hZ1 : ∀ j, Z1 1000000 j = Z 1000000 j := fun j => by rw [hS1]
  simp (disch := first | assumption | decide +kernel | omega) only [q_171_546, q_171_547, q_171_548, q_171_549, q_171_550, q_171_551, q_171_552, q_171_553, q_171_554, q_171_555, q_171_556, q_171_557, q_171_560, q_171_561, q_171_562, q_171_563, q_171_564, q_171_565, q_171_566, q_171_567, q_171_568, q_171_569, q_171_570, q_171_571, q_171_574, q_171_577, q_171_578, q_171_922, q_171_925, hC, hR, hZ1, pm_some, Option.toList_some, Option.toList_none, List.cons_append, List.nil_append, Nat.reduceAdd, Nat.reduceMul]
  exact if_pos trivial
theorem law_c15 (H : Op_copied) {L : Nat} (hL : L ≤ 2048) {T : Int} {Z : Nat → Nat → Int} {W : Nat → Nat} (hI : Inv T Z W) (hT0 : 0 ≤ T) (hT : T ≤ 153600) (hX : ∀ j, pm_r (Z 1000000 j)) {i : Nat} (hi : (i : Int) + 4 ≤ L) : law_nx L (Z 1000000) T i (pm_D (171, 579, [.ref 1000000, .ref 0, .ref 190, .int (pm_J (i : Int))], [], pm_hp L Z W)) := by
  obtain ⟨v, Z1, W1, Z2, W2, hv, hC, hR, hI2, hS1, hS⟩ := H T L Z W hI hT0 hT (Z 1000000 ((i : Int) + 1).toNat) (Z 1000000 ((i : Int) + 2).toNat) (hX _) (hX _)
  refine ⟨Z2, W2, hI2, hS, ?_⟩
  have hZ1 : ∀ j, Z1 1000000 j = Z 1000000 j := fun j => by rw [hS1]
  simp (disch := first | assumption | decide +kernel | omega) only [q_171_579, q_171_580, q_171_581, q_171_582, q_171_583, q_171_584, q_171_585, q_171_586, q_171_587, q_171_588, q_171_589, q_171_590, q_171_593, q_171_594, q_171_595, q_171_596, q_171_597, q_171_598, q_171_599, q_171_600, q_171_601, q_171_602, q_171_603, q_171_604, q_171_607, q_171_610, q_171_611, q_171_922, q_171_925, hC, hR, hZ1, pm_some, Option.toList_some, Option.toList_none, List.cons_append, List.nil_append, Nat.reduceAdd, Nat.reduceMul]
  exact if_pos trivial
theorem law_c16 (H : Op_sign) {L : Nat} (hL : L ≤ 2048) {T : Int} {Z : Nat → Nat → Int} {W : Nat → Nat} (hI : Inv T Z W) (hT0 : 0 ≤ T) (hT : T ≤ 153600) (hX : ∀ j, pm_r (Z 1000000 j)) {i : Nat} (hi : (i : Int) + 4 ≤ L) : law_nx L (Z 1000000) T i (pm_D (171, 612, [.ref 1000000, .ref 0, .ref 190, .int (pm_J (i : Int))], [], pm_hp L Z W)) := by
  obtain ⟨v, Z1, W1, Z2, W2, hv, hC, hR, hI2, hS1, hS⟩ := H T L Z W hI hT0 hT (Z 1000000 ((i : Int) + 1).toNat) (Z 1000000 ((i : Int) + 2).toNat) (Z 1000000 ((i : Int) + 3).toNat) (hX _) (hX _) (hX _)
  refine ⟨Z2, W2, hI2, hS, ?_⟩
  have hZ1 : ∀ j, Z1 1000000 j = Z 1000000 j := fun j => by rw [hS1]
  simp (disch := first | assumption | decide +kernel | omega) only [q_171_612, q_171_613, q_171_614, q_171_615, q_171_616, q_171_617, q_171_618, q_171_619, q_171_620, q_171_621, q_171_622, q_171_623, q_171_624, q_171_625, q_171_626, q_171_627, q_171_628, q_171_631, q_171_632, q_171_633, q_171_634, q_171_635, q_171_636, q_171_637, q_171_638, q_171_639, q_171_640, q_171_641, q_171_642, q_171_643, q_171_644, q_171_645, q_171_646, q_171_647, q_171_650, q_171_653, q_171_654, q_171_922, q_171_925, hC, hR, hZ1, pm_some, Option.toList_some, Option.toList_none, List.cons_append, List.nil_append, Nat.reduceAdd, Nat.reduceMul]
  exact if_pos trivial
theorem law_c17 (H : Op_reading) {L : Nat} (hL : L ≤ 2048) {T : Int} {Z : Nat → Nat → Int} {W : Nat → Nat} (hI : Inv T Z W) (hT0 : 0 ≤ T) (hT : T ≤ 153600) (hX : ∀ j, pm_r (Z 1000000 j)) {i : Nat} (hi : (i : Int) + 4 ≤ L) : law_nx L (Z 1000000) T i (pm_D (171, 655, [.ref 1000000, .ref 0, .ref 190, .int (pm_J (i : Int))], [], pm_hp L Z W)) := by
  obtain ⟨v, Z1, W1, Z2, W2, hv, hC, hR, hI2, hS1, hS⟩ := H T L Z W hI hT0 hT (Z 1000000 ((i : Int) + 1).toNat) (Z 1000000 ((i : Int) + 2).toNat) (Z 1000000 ((i : Int) + 3).toNat) (hX _) (hX _) (hX _)
  refine ⟨Z2, W2, hI2, hS, ?_⟩
  have hZ1 : ∀ j, Z1 1000000 j = Z 1000000 j := fun j => by rw [hS1]
  simp (disch := first | assumption | decide +kernel | omega) only [q_171_655, q_171_656, q_171_657, q_171_658, q_171_659, q_171_660, q_171_661, q_171_662, q_171_663, q_171_664, q_171_665, q_171_666, q_171_667, q_171_668, q_171_669, q_171_670, q_171_671, q_171_674, q_171_675, q_171_676, q_171_677, q_171_678, q_171_679, q_171_680, q_171_681, q_171_682, q_171_683, q_171_684, q_171_685, q_171_686, q_171_687, q_171_688, q_171_689, q_171_690, q_171_693, q_171_696, q_171_697, q_171_922, q_171_925, hC, hR, hZ1, pm_some, Option.toList_some, Option.toList_none, List.cons_append, List.nil_append, Nat.reduceAdd, Nat.reduceMul]
  exact if_pos trivial
theorem law_c18 (H : Op_step) {L : Nat} (hL : L ≤ 2048) {T : Int} {Z : Nat → Nat → Int} {W : Nat → Nat} (hI : Inv T Z W) (hT0 : 0 ≤ T) (hT : T ≤ 153600) (hX : ∀ j, pm_r (Z 1000000 j)) {i : Nat} (hi : (i : Int) + 4 ≤ L) : law_nx L (Z 1000000) T i (pm_D (171, 698, [.ref 1000000, .ref 0, .ref 190, .int (pm_J (i : Int))], [], pm_hp L Z W)) := by
  obtain ⟨v, Z1, W1, Z2, W2, hv, hC, hR, hI2, hS1, hS⟩ := H T L Z W hI hT0 hT (Z 1000000 ((i : Int) + 1).toNat) (Z 1000000 ((i : Int) + 2).toNat) (hX _) (hX _)
  refine ⟨Z2, W2, hI2, hS, ?_⟩
  have hZ1 : ∀ j, Z1 1000000 j = Z 1000000 j := fun j => by rw [hS1]
  simp (disch := first | assumption | decide +kernel | omega) only [q_171_698, q_171_699, q_171_700, q_171_701, q_171_702, q_171_703, q_171_704, q_171_705, q_171_706, q_171_707, q_171_708, q_171_709, q_171_712, q_171_713, q_171_714, q_171_715, q_171_716, q_171_717, q_171_718, q_171_719, q_171_720, q_171_721, q_171_722, q_171_723, q_171_726, q_171_729, q_171_730, q_171_922, q_171_925, hC, hR, hZ1, pm_some, Option.toList_some, Option.toList_none, List.cons_append, List.nil_append, Nat.reduceAdd, Nat.reduceMul]
  exact if_pos trivial
theorem law_c19 (H : Op_run) {L : Nat} (hL : L ≤ 2048) {T : Int} {Z : Nat → Nat → Int} {W : Nat → Nat} (hI : Inv T Z W) (hT0 : 0 ≤ T) (hT : T ≤ 153600) (hX : ∀ j, pm_r (Z 1000000 j)) {i : Nat} (hi : (i : Int) + 4 ≤ L) : law_nx L (Z 1000000) T i (pm_D (171, 731, [.ref 1000000, .ref 0, .ref 190, .int (pm_J (i : Int))], [], pm_hp L Z W)) := by
  obtain ⟨v, Z1, W1, Z2, W2, hv, hC, hR, hI2, hS1, hS⟩ := H T L Z W hI hT0 hT (Z 1000000 ((i : Int) + 1).toNat) (hX _)
  refine ⟨Z2, W2, hI2, hS, ?_⟩
  have hZ1 : ∀ j, Z1 1000000 j = Z 1000000 j := fun j => by rw [hS1]
  simp (disch := first | assumption | decide +kernel | omega) only [q_171_731, q_171_732, q_171_733, q_171_734, q_171_735, q_171_736, q_171_737, q_171_740, q_171_741, q_171_742, q_171_743, q_171_744, q_171_745, q_171_746, q_171_749, q_171_752, q_171_753, q_171_922, q_171_925, hC, hR, hZ1, pm_some, Option.toList_some, Option.toList_none, List.cons_append, List.nil_append, Nat.reduceAdd, Nat.reduceMul]
  exact if_pos trivial
theorem law_c20 (H : Op_value) {L : Nat} (hL : L ≤ 2048) {T : Int} {Z : Nat → Nat → Int} {W : Nat → Nat} (hI : Inv T Z W) (hT0 : 0 ≤ T) (hT : T ≤ 153600) (hX : ∀ j, pm_r (Z 1000000 j)) {i : Nat} (hi : (i : Int) + 4 ≤ L) : law_nx L (Z 1000000) T i (pm_D (171, 754, [.ref 1000000, .ref 0, .ref 190, .int (pm_J (i : Int))], [], pm_hp L Z W)) := by
  obtain ⟨v, Z1, W1, Z2, W2, hv, hC, hR, hI2, hS1, hS⟩ := H T L Z W hI hT0 hT (Z 1000000 ((i : Int) + 1).toNat) (hX _)
  refine ⟨Z2, W2, hI2, hS, ?_⟩
  have hZ1 : ∀ j, Z1 1000000 j = Z 1000000 j := fun j => by rw [hS1]
  simp (disch := first | assumption | decide +kernel | omega) only [q_171_754, q_171_755, q_171_756, q_171_757, q_171_758, q_171_759, q_171_760, q_171_763, q_171_764, q_171_765, q_171_766, q_171_767, q_171_768, q_171_769, q_171_772, q_171_775, q_171_776, q_171_922, q_171_925, hC, hR, hZ1, pm_some, Option.toList_some, Option.toList_none, List.cons_append, List.nil_append, Nat.reduceAdd, Nat.reduceMul]
  exact if_pos trivial
theorem law_c21 (H : Op_shown) {L : Nat} (hL : L ≤ 2048) {T : Int} {Z : Nat → Nat → Int} {W : Nat → Nat} (hI : Inv T Z W) (hT0 : 0 ≤ T) (hT : T ≤ 153600) (hX : ∀ j, pm_r (Z 1000000 j)) {i : Nat} (hi : (i : Int) + 4 ≤ L) : law_nx L (Z 1000000) T i (pm_D (171, 777, [.ref 1000000, .ref 0, .ref 190, .int (pm_J (i : Int))], [], pm_hp L Z W)) := by
  obtain ⟨v, Z1, W1, Z2, W2, hv, hC, hR, hI2, hS1, hS⟩ := H T L Z W hI hT0 hT (Z 1000000 ((i : Int) + 1).toNat) (hX _)
  refine ⟨Z2, W2, hI2, hS, ?_⟩
  have hZ1 : ∀ j, Z1 1000000 j = Z 1000000 j := fun j => by rw [hS1]
  simp (disch := first | assumption | decide +kernel | omega) only [q_171_777, q_171_778, q_171_779, q_171_780, q_171_781, q_171_782, q_171_783, q_171_786, q_171_787, q_171_788, q_171_789, q_171_790, q_171_791, q_171_792, q_171_795, q_171_798, q_171_799, q_171_922, q_171_925, hC, hR, hZ1, pm_some, Option.toList_some, Option.toList_none, List.cons_append, List.nil_append, Nat.reduceAdd, Nat.reduceMul]
  exact if_pos trivial
theorem law_c22 (H : Op_task) {L : Nat} (hL : L ≤ 2048) {T : Int} {Z : Nat → Nat → Int} {W : Nat → Nat} (hI : Inv T Z W) (hT0 : 0 ≤ T) (hT : T ≤ 153600) (hX : ∀ j, pm_r (Z 1000000 j)) {i : Nat} (hi : (i : Int) + 4 ≤ L) : law_nx L (Z 1000000) T i (pm_D (171, 800, [.ref 1000000, .ref 0, .ref 190, .int (pm_J (i : Int))], [], pm_hp L Z W)) := by
  obtain ⟨v, Z1, W1, Z2, W2, hv, hC, hR, hI2, hS1, hS⟩ := H T L Z W hI hT0 hT (Z 1000000 ((i : Int) + 1).toNat) (Z 1000000 ((i : Int) + 2).toNat) (hX _) (hX _)
  refine ⟨Z2, W2, hI2, hS, ?_⟩
  have hZ1 : ∀ j, Z1 1000000 j = Z 1000000 j := fun j => by rw [hS1]
  simp (disch := first | assumption | decide +kernel | omega) only [q_171_800, q_171_801, q_171_802, q_171_803, q_171_804, q_171_805, q_171_806, q_171_807, q_171_808, q_171_809, q_171_810, q_171_811, q_171_814, q_171_815, q_171_816, q_171_817, q_171_818, q_171_819, q_171_820, q_171_821, q_171_822, q_171_823, q_171_824, q_171_825, q_171_828, q_171_831, q_171_832, q_171_922, q_171_925, hC, hR, hZ1, pm_some, Option.toList_some, Option.toList_none, List.cons_append, List.nil_append, Nat.reduceAdd, Nat.reduceMul]
  exact if_pos trivial
theorem law_c23 (H : Op_forecast) {L : Nat} (hL : L ≤ 2048) {T : Int} {Z : Nat → Nat → Int} {W : Nat → Nat} (hI : Inv T Z W) (hT0 : 0 ≤ T) (hT : T ≤ 153600) (hX : ∀ j, pm_r (Z 1000000 j)) {i : Nat} (hi : (i : Int) + 4 ≤ L) : law_nx L (Z 1000000) T i (pm_D (171, 833, [.ref 1000000, .ref 0, .ref 190, .int (pm_J (i : Int))], [], pm_hp L Z W)) := by
  obtain ⟨v, Z1, W1, Z2, W2, hv, hC, hR, hI2, hS1, hS⟩ := H T L Z W hI hT0 hT (Z 1000000 ((i : Int) + 1).toNat) (hX _)
  refine ⟨Z2, W2, hI2, hS, ?_⟩
  have hZ1 : ∀ j, Z1 1000000 j = Z 1000000 j := fun j => by rw [hS1]
  simp (disch := first | assumption | decide +kernel | omega) only [q_171_833, q_171_834, q_171_835, q_171_836, q_171_837, q_171_838, q_171_839, q_171_842, q_171_843, q_171_844, q_171_845, q_171_846, q_171_847, q_171_848, q_171_851, q_171_854, q_171_855, q_171_922, q_171_925, hC, hR, hZ1, pm_some, Option.toList_some, Option.toList_none, List.cons_append, List.nil_append, Nat.reduceAdd, Nat.reduceMul]
  exact if_pos trivial
theorem law_c24 (H : Op_effect) {L : Nat} (hL : L ≤ 2048) {T : Int} {Z : Nat → Nat → Int} {W : Nat → Nat} (hI : Inv T Z W) (hT0 : 0 ≤ T) (hT : T ≤ 153600) (hX : ∀ j, pm_r (Z 1000000 j)) {i : Nat} (hi : (i : Int) + 4 ≤ L) : law_nx L (Z 1000000) T i (pm_D (171, 856, [.ref 1000000, .ref 0, .ref 190, .int (pm_J (i : Int))], [], pm_hp L Z W)) := by
  obtain ⟨v, Z1, W1, Z2, W2, hv, hC, hR, hI2, hS1, hS⟩ := H T L Z W hI hT0 hT (Z 1000000 ((i : Int) + 1).toNat) (Z 1000000 ((i : Int) + 2).toNat) (Z 1000000 ((i : Int) + 3).toNat) (hX _) (hX _) (hX _)
  refine ⟨Z2, W2, hI2, hS, ?_⟩
  have hZ1 : ∀ j, Z1 1000000 j = Z 1000000 j := fun j => by rw [hS1]
  simp (disch := first | assumption | decide +kernel | omega) only [q_171_856, q_171_857, q_171_858, q_171_859, q_171_860, q_171_861, q_171_862, q_171_863, q_171_864, q_171_865, q_171_866, q_171_867, q_171_868, q_171_869, q_171_870, q_171_871, q_171_872, q_171_875, q_171_876, q_171_877, q_171_878, q_171_879, q_171_880, q_171_881, q_171_882, q_171_883, q_171_884, q_171_885, q_171_886, q_171_887, q_171_888, q_171_889, q_171_890, q_171_891, q_171_894, q_171_897, q_171_898, q_171_922, q_171_925, hC, hR, hZ1, pm_some, Option.toList_some, Option.toList_none, List.cons_append, List.nil_append, Nat.reduceAdd, Nat.reduceMul]
  exact if_pos trivial
theorem law_c25 (H : Op_leastMinutes) {L : Nat} (hL : L ≤ 2048) {T : Int} {Z : Nat → Nat → Int} {W : Nat → Nat} (hI : Inv T Z W) (hT0 : 0 ≤ T) (hT : T ≤ 153600) (hX : ∀ j, pm_r (Z 1000000 j)) {i : Nat} (hi : (i : Int) + 4 ≤ L) : law_nx L (Z 1000000) T i (pm_D (171, 899, [.ref 1000000, .ref 0, .ref 190, .int (pm_J (i : Int))], [], pm_hp L Z W)) := by
  obtain ⟨v, Z1, W1, Z2, W2, hv, hC, hR, hI2, hS1, hS⟩ := H T L Z W hI hT0 hT (Z 1000000 ((i : Int) + 1).toNat) (hX _)
  refine ⟨Z2, W2, hI2, hS, ?_⟩
  have hZ1 : ∀ j, Z1 1000000 j = Z 1000000 j := fun j => by rw [hS1]
  simp (disch := first | assumption | decide +kernel | omega) only [q_171_899, q_171_900, q_171_901, q_171_902, q_171_903, q_171_904, q_171_905, q_171_908, q_171_909, q_171_910, q_171_911, q_171_912, q_171_913, q_171_914, q_171_917, q_171_920, q_171_921, q_171_922, q_171_925, hC, hR, hZ1, pm_some, Option.toList_some, Option.toList_none, List.cons_append, List.nil_append, Nat.reduceAdd, Nat.reduceMul]
  exact if_pos trivial
theorem law_body (H : Ops) {L : Nat} (hL : L ≤ 2048) {T : Int} {Z : Nat → Nat → Int} {W : Nat → Nat} (hI : Inv T Z W) (hT0 : 0 ≤ T) (hT : T ≤ 153600) (hX : ∀ j, pm_r (Z 1000000 j)) {i : Nat} (hi : (i : Int) + 4 ≤ L) : law_nx L (Z 1000000) T i (pm_D (171, 26, [.ref 1000000, .ref 0, .ref 190, .int (pm_J (i : Int))], [], pm_hp L Z W)) := by
  obtain ⟨h_0, h_1, h_2, h_3, h_4, h_5, h_6, h_7, h_8, h_9, h_10, h_11, h_12, h_13, h_14, h_15, h_16, h_17, h_18, h_19, h_20, h_21, h_22, h_23, h_24, h_25⟩ := H
  have hs1 : -2147483648 ≤ (pm_J (Z 1000000 (i : Int).toNat) &&& pm_J 31).toInt := Int32.le_toInt _
  have hs2 : (pm_J (Z 1000000 (i : Int).toNat) &&& pm_J 31).toInt < 2147483648 := Int32.toInt_lt _
  simp (disch := first | assumption | decide +kernel | omega) only [q_171_26, q_171_27, q_171_28, q_171_29, q_171_31]
  rw [q_171_32 _ _ _ hs1 hs2]
  generalize (pm_J (Z 1000000 (i : Int).toNat) &&& pm_J 31).toInt = sw
  by_cases e_0 : sw = 0
  · rw [if_pos e_0]
    exact law_c0 h_0 hL hI hT0 hT hX hi
  rw [if_neg e_0]
  by_cases e_1 : sw = 1
  · rw [if_pos e_1]
    exact law_c1 h_1 hL hI hT0 hT hX hi
  rw [if_neg e_1]
  by_cases e_2 : sw = 2
  · rw [if_pos e_2]
    exact law_c2 h_2 hL hI hT0 hT hX hi
  rw [if_neg e_2]
  by_cases e_3 : sw = 3
  · rw [if_pos e_3]
    exact law_c3 h_3 hL hI hT0 hT hX hi
  rw [if_neg e_3]
  by_cases e_4 : sw = 4
  · rw [if_pos e_4]
    exact law_c4 h_4 hL hI hT0 hT hX hi
  rw [if_neg e_4]
  by_cases e_5 : sw = 5
  · rw [if_pos e_5]
    exact law_c5 h_5 hL hI hT0 hT hX hi
  rw [if_neg e_5]
  by_cases e_6 : sw = 6
  · rw [if_pos e_6]
    exact law_c6 h_6 hL hI hT0 hT hX hi
  rw [if_neg e_6]
  by_cases e_7 : sw = 7
  · rw [if_pos e_7]
    exact law_c7 h_7 hL hI hT0 hT hX hi
  rw [if_neg e_7]
  by_cases e_8 : sw = 8
  · rw [if_pos e_8]
    exact law_c8 h_8 hL hI hT0 hT hX hi
  rw [if_neg e_8]
  by_cases e_9 : sw = 9
  · rw [if_pos e_9]
    exact law_c9 h_9 hL hI hT0 hT hX hi
  rw [if_neg e_9]
  by_cases e_10 : sw = 10
  · rw [if_pos e_10]
    exact law_c10 h_10 hL hI hT0 hT hX hi
  rw [if_neg e_10]
  by_cases e_11 : sw = 11
  · rw [if_pos e_11]
    exact law_c11 h_11 hL hI hT0 hT hX hi
  rw [if_neg e_11]
  by_cases e_12 : sw = 12
  · rw [if_pos e_12]
    exact law_c12 h_12 hL hI hT0 hT hX hi
  rw [if_neg e_12]
  by_cases e_13 : sw = 13
  · rw [if_pos e_13]
    exact law_c13 h_13 hL hI hT0 hT hX hi
  rw [if_neg e_13]
  by_cases e_14 : sw = 14
  · rw [if_pos e_14]
    exact law_c14 h_14 hL hI hT0 hT hX hi
  rw [if_neg e_14]
  by_cases e_15 : sw = 15
  · rw [if_pos e_15]
    exact law_c15 h_15 hL hI hT0 hT hX hi
  rw [if_neg e_15]
  by_cases e_16 : sw = 16
  · rw [if_pos e_16]
    exact law_c16 h_16 hL hI hT0 hT hX hi
  rw [if_neg e_16]
  by_cases e_17 : sw = 17
  · rw [if_pos e_17]
    exact law_c17 h_17 hL hI hT0 hT hX hi
  rw [if_neg e_17]
  by_cases e_18 : sw = 18
  · rw [if_pos e_18]
    exact law_c18 h_18 hL hI hT0 hT hX hi
  rw [if_neg e_18]
  by_cases e_19 : sw = 19
  · rw [if_pos e_19]
    exact law_c19 h_19 hL hI hT0 hT hX hi
  rw [if_neg e_19]
  by_cases e_20 : sw = 20
  · rw [if_pos e_20]
    exact law_c20 h_20 hL hI hT0 hT hX hi
  rw [if_neg e_20]
  by_cases e_21 : sw = 21
  · rw [if_pos e_21]
    exact law_c21 h_21 hL hI hT0 hT hX hi
  rw [if_neg e_21]
  by_cases e_22 : sw = 22
  · rw [if_pos e_22]
    exact law_c22 h_22 hL hI hT0 hT hX hi
  rw [if_neg e_22]
  by_cases e_23 : sw = 23
  · rw [if_pos e_23]
    exact law_c23 h_23 hL hI hT0 hT hX hi
  rw [if_neg e_23]
  by_cases e_24 : sw = 24
  · rw [if_pos e_24]
    exact law_c24 h_24 hL hI hT0 hT hX hi
  rw [if_neg e_24]
  by_cases e_25 : sw = 25
  · rw [if_pos e_25]
    exact law_c25 h_25 hL hI hT0 hT hX hi
  rw [if_neg e_25]
  refine ⟨Z, W, hI.up, rfl, ?_⟩
  simp (disch := first | assumption | decide +kernel | omega) only [q_171_922, q_171_925, pm_some, Option.toList_some, Option.toList_none, List.cons_append, List.nil_append, Nat.reduceAdd, Nat.reduceMul]

theorem law_loop (H : Ops) {L : Nat} (hL : L ≤ 2048) : ∀ (n k : Nat) (Z : Nat → Nat → Int) (W : Nat → Nat), Inv (300 * (k : Int)) Z W → (∀ j, pm_r (Z 1000000 j)) → L < 4 * k + 4 * n + 4 → 4 * k ≤ 2052 → ∃ (Z' : Nat → Nat → Int) (W' : Nat → Nat), pm_D (171, 18, [.ref 1000000, .ref 0, .ref 190, .int (pm_J ((4 * k : Nat) : Int))], [], pm_hp L Z W) = some (some (.int (pm_J 1)), pm_hp L Z' W') := by
  intro n
  induction n with
  | zero =>
    intro k Z W hI hX hk hk2
    refine ⟨Z, W, ?_⟩
    simp (disch := first | assumption | decide +kernel | omega) only [q_171_18, q_171_19, q_171_20, q_171_21, q_171_22, q_171_23, q_171_928, q_171_929, pm_some, Option.toList_some, Option.toList_none, List.cons_append, List.nil_append, Nat.reduceAdd, Nat.reduceMul]
    rw [if_pos (by omega)]
  | succ n ih =>
    intro k Z W hI hX hk hk2
    by_cases hc : (L : Int) - 4 < ((4 * k : Nat) : Int)
    · refine ⟨Z, W, ?_⟩
      simp (disch := first | assumption | decide +kernel | omega) only [q_171_18, q_171_19, q_171_20, q_171_21, q_171_22, q_171_23, q_171_928, q_171_929, pm_some, Option.toList_some, Option.toList_none, List.cons_append, List.nil_append, Nat.reduceAdd, Nat.reduceMul]
      rw [if_pos hc]
    · obtain ⟨Z2, W2, hI2, hX2, he⟩ := law_body H hL hI (by omega) (by omega) hX (i := 4 * k) (by omega)
      obtain ⟨Z3, W3, h3⟩ := ih (k + 1) Z2 W2 (by rw [show (300 * ((k + 1 : Nat) : Int)) = 300 * (k : Int) + 300 by omega]; exact hI2) (by rw [hX2]; exact hX) (by omega) (by omega)
      refine ⟨Z3, W3, ?_⟩
      simp (disch := first | assumption | decide +kernel | omega) only [q_171_18, q_171_19, q_171_20, q_171_21, q_171_22, q_171_23, pm_some, Option.toList_some, Option.toList_none, List.cons_append, List.nil_append, Nat.reduceAdd, Nat.reduceMul]
      rw [if_neg hc, he, ← h3]
      rw [show (((4 * k : Nat) : Int) + 4) = ((4 * (k + 1) : Nat) : Int) by omega]

