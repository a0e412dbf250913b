/-! a minute, both sides -/
theorem md_pick_congr' {Z Z' : Nat → Nat → Int} (t : Int) (g1 : ∀ q, 1 ≤ q → q < 11 → Z' 191 q = Z 191 q) (g2 : ∀ q, 31 ≤ q → q < 111 → Z' 191 q = Z 191 q) (r1 : Z' 205 = Z 205) (r2 : Z' 206 = Z 206) (r3 : Z' 207 = Z 207) : ∀ k : Nat, k ≤ 10 → (∀ i : Nat, i < k → 0 ≤ Z 205 i ∧ Z 205 i < 8 ∧ 0 ≤ Z 206 i ∧ Z 206 i < 8) → md_pick Z' t k = md_pick Z t k
  | 0, _, _ => rfl
  | k + 1, hk, hF => by
    have ih := md_pick_congr' t g1 g2 r1 r2 r3 k (by omega) (fun i hi => hF i (by omega))
    obtain ⟨f1, f2, f3, f4⟩ := hF k (by omega)
    have ec : ∀ l, md_can Z' k l = md_can Z k l := fun l => by
      by_cases c : (if Z 205 k < Z 206 k then Z 205 k else Z 206 k) ≤ l ∧ l < (if Z 205 k < Z 206 k then Z 206 k else Z 205 k)
      · unfold md_can
        have l0 : 0 ≤ l ∧ l < 7 := by
          have c1 := c.1
          have c2 := c.2
          split at c1 <;> split at c2 <;> omega
        rw [r1, r2, g1 _ (by omega) (by omega)]
        by_cases u : Z 205 k < Z 206 k
        · simp only [if_pos u]
          rw [g2 _ (by omega) (by omega), g2 _ (by omega) (by omega)]
        · simp only [if_neg u]
          rw [g2 _ (by omega) (by omega), g2 _ (by omega) (by omega)]
      · have e : ∀ X : Nat → Nat → Int, X 205 = Z 205 → X 206 = Z 206 → md_can X k l = false := fun X x1 x2 => by
          unfold md_can
          rw [x1, x2]
          simp only [Bool.and_eq_false_iff, decide_eq_false_iff_not]
          omega
        rw [e Z' r1 r2, e Z rfl rfl]
    unfold md_pick
    rw [ih]
    unfold md_lk md_rk
    simp only [ec]
    rw [r1, r2, r3]
theorem l_R_clear (L : Nat) (W : Nat → Nat) (v2 v3 : Value) : ∀ (n t : Nat) (Z : Nat → Nat → Int), Z 190 0 ≤ 8 → (t : Int) + n = Z 190 0 → ∃ Z', pm_D (157, 6, [.ref 190, .int (pm_J (t : Int)), v2, v3], [], pm_hp L Z W) = pm_D (157, 31, [.ref 190, .int (pm_J (Z 190 0)), v2, v3], [], pm_hp L Z' W) ∧ (∀ a, a ≠ 191 → Z' a = Z a) ∧ ∀ q : Nat, Z' 191 q = if 303 + t ≤ q ∧ (q : Int) < 303 + Z 190 0 then 0 else Z 191 q := by
  intro n
  induction n with
  | zero =>
    intro t Z h8 hk
    have hlt : ¬ (t : Int) < Z 190 0 := by omega
    refine ⟨Z, ?_, fun _ _ => rfl, fun q => by rw [if_neg (by omega)]⟩
    rw [q_157_6, show Z 190 0 = (t : Int) by omega]
    rw [show Z 190 0 = (t : Int) by omega] at hlt
    have e : Z 190 0 = (t : Int) := by omega
    simp (disch := first | assumption | decide +kernel | omega | (split <;> omega)) only [q_157_0, q_157_1, q_157_4, q_157_5, q_157_7, q_157_8, q_157_11, q_157_14, q_157_15, q_157_18, q_157_21, q_157_22, q_157_23, q_157_24, q_157_25, q_157_28, q_157_32, q_157_33, q_157_34, q_157_35, q_157_38, q_157_39, q_157_40, q_157_43, q_157_44, q_157_47, q_157_50, q_157_51, q_157_52, q_157_55, q_157_58, q_157_59, q_157_62, q_157_63, q_157_64, q_157_65, q_157_68, q_157_71, q_157_72, q_157_73, q_157_74, q_157_75, q_157_76, q_157_77, q_157_78, q_157_79, q_157_80, q_157_83, q_157_84, q_157_87, q_157_88, q_157_89, q_157_90, q_157_91, q_157_94, q_157_95, q_157_96, q_157_99, q_157_100, q_157_103, q_157_104, q_157_105, q_157_106, q_157_109, q_157_110, q_157_111, q_157_112, q_157_113, q_157_116, q_157_117, q_157_120, q_157_121, q_157_122, q_157_123, q_157_126, q_157_127, q_157_130, q_157_131, q_157_132, q_157_133, q_157_134, q_157_135, q_157_138, q_157_139, q_157_142, q_157_143, q_157_144, q_157_145, q_157_148, q_157_149, q_157_152, q_157_153, q_157_154, q_157_157, q_157_158, q_157_159, q_157_160, q_157_163, q_157_166, q_157_169, q_157_170, q_157_173, q_157_174, q_157_175, q_157_176, q_157_177, q_157_178, q_157_179, q_157_180, q_157_181, q_157_182, q_157_183, q_157_186, q_157_189, q_157_190, q_157_191, q_157_194, q_157_197, q_157_198, q_157_199, q_157_200, q_157_203, q_157_204, q_157_205, q_157_208, q_157_209, q_157_210, q_157_211, q_157_214, q_157_215, q_157_216, q_157_219, q_157_222, q_157_223, q_157_226, q_157_227, q_157_228, q_157_229, q_157_230, q_157_231, q_157_232, q_157_235, q_157_237, q_157_238, q_157_239, q_157_240, q_157_243, q_157_244, q_157_245, q_157_246, q_157_249, q_157_252, pm_some, Option.toList_some, Option.toList_none, List.cons_append, List.nil_append, pm_i0, pm_i1, Nat.reduceAdd, Nat.reduceMul, Int.toNat_natCast, Int.toNat_zero, not_true_eq_false, not_false_eq_true, and_self, true_and, and_true, ↓reduceIte, Int.reduceEq, Int.reduceLT, Int.reduceLE, Int.reduceNeg, Bool.false_eq_true, e, Int.lt_irrefl]
  | succ n ih =>
    intro t Z h8 hk
    have hlt : (t : Int) < Z 190 0 := by omega
    have e0 : (303 + (t : Int)).toNat = 303 + t := by omega
    have r0 : pm_up Z 191 (303 + t) 0 190 = Z 190 := pm_up_row (by omega)
    obtain ⟨Z', e, f, g⟩ := ih (t + 1) (pm_up Z 191 (303 + t) 0) (by rw [r0]; exact h8) (by rw [r0]; omega)
    rw [r0] at e g
    rw [show (((t + 1 : Nat)) : Int) = (t : Int) + 1 by omega] at e
    refine ⟨Z', ?_, fun a ha => by rw [f a ha, pm_up_row ha], fun q => ?_⟩
    · rw [q_157_6]
      simp (disch := first | assumption | decide +kernel | omega | (split <;> omega)) only [q_157_0, q_157_1, q_157_4, q_157_5, q_157_7, q_157_8, q_157_11, q_157_14, q_157_15, q_157_18, q_157_21, q_157_22, q_157_23, q_157_24, q_157_25, q_157_28, q_157_32, q_157_33, q_157_34, q_157_35, q_157_38, q_157_39, q_157_40, q_157_43, q_157_44, q_157_47, q_157_50, q_157_51, q_157_52, q_157_55, q_157_58, q_157_59, q_157_62, q_157_63, q_157_64, q_157_65, q_157_68, q_157_71, q_157_72, q_157_73, q_157_74, q_157_75, q_157_76, q_157_77, q_157_78, q_157_79, q_157_80, q_157_83, q_157_84, q_157_87, q_157_88, q_157_89, q_157_90, q_157_91, q_157_94, q_157_95, q_157_96, q_157_99, q_157_100, q_157_103, q_157_104, q_157_105, q_157_106, q_157_109, q_157_110, q_157_111, q_157_112, q_157_113, q_157_116, q_157_117, q_157_120, q_157_121, q_157_122, q_157_123, q_157_126, q_157_127, q_157_130, q_157_131, q_157_132, q_157_133, q_157_134, q_157_135, q_157_138, q_157_139, q_157_142, q_157_143, q_157_144, q_157_145, q_157_148, q_157_149, q_157_152, q_157_153, q_157_154, q_157_157, q_157_158, q_157_159, q_157_160, q_157_163, q_157_166, q_157_169, q_157_170, q_157_173, q_157_174, q_157_175, q_157_176, q_157_177, q_157_178, q_157_179, q_157_180, q_157_181, q_157_182, q_157_183, q_157_186, q_157_189, q_157_190, q_157_191, q_157_194, q_157_197, q_157_198, q_157_199, q_157_200, q_157_203, q_157_204, q_157_205, q_157_208, q_157_209, q_157_210, q_157_211, q_157_214, q_157_215, q_157_216, q_157_219, q_157_222, q_157_223, q_157_226, q_157_227, q_157_228, q_157_229, q_157_230, q_157_231, q_157_232, q_157_235, q_157_237, q_157_238, q_157_239, q_157_240, q_157_243, q_157_244, q_157_245, q_157_246, q_157_249, q_157_252, pm_some, Option.toList_some, Option.toList_none, List.cons_append, List.nil_append, pm_i0, pm_i1, Nat.reduceAdd, Nat.reduceMul, Int.toNat_natCast, Int.toNat_zero, not_true_eq_false, not_false_eq_true, and_self, true_and, and_true, ↓reduceIte, Int.reduceEq, Int.reduceLT, Int.reduceLE, Int.reduceNeg, Bool.false_eq_true, hlt, e0]
      exact e
    · rw [g q]
      by_cases c : q = 303 + t
      · subst c
        rw [if_neg (by omega), if_pos (by omega), pm_up_same]
      · rw [pm_up_ne (by omega)]
        by_cases c2 : 303 + t ≤ q ∧ (q : Int) < 303 + Z 190 0
        · rw [if_pos (by omega), if_pos c2]
        · rw [if_neg (by omega), if_neg c2]
/-- message i has become whole -/
abbrev arr (Z : Nat → Nat → Int) (i : Nat) : Prop := Z 191 (1 + i) = 0 ∧ Z 191 (31 + 8 * i + (Z 206 i).toNat) = Z 191 (31 + 8 * i + (Z 205 i).toNat)
theorem arr_congr {Z Z' : Nat → Nat → Int} {i : Nat} (h1 : Z' 191 (1 + i) = Z 191 (1 + i)) (h5 : Z' 205 = Z 205) (h6 : Z' 206 = Z 206) (g : ∀ q, 31 ≤ q → q < 111 → Z' 191 q = Z 191 q) (hi : i < 10) (f1 : 0 ≤ Z 205 i ∧ Z 205 i < 8) (f2 : 0 ≤ Z 206 i ∧ Z 206 i < 8) : arr Z' i ↔ arr Z i := by
  unfold arr
  rw [h1, h5, h6, g _ (by omega) (by omega), g _ (by omega) (by omega)]
theorem l_R_arrive (L : Nat) (W : Nat → Nat) (v2 v3 : Value) : ∀ (n k : Nat) (Z : Nat → Nat → Int), rok Z → (k : Int) + n = Z 190 22 → ∃ Z', pm_D (157, 181, [.ref 190, .int (pm_J (k : Int)), v2, v3], [], pm_hp L Z W) = some (none, pm_hp L Z' W) ∧ (∀ a, a ≠ 191 → Z' a = Z a) ∧ (∀ q : Nat, ¬ (1 + k ≤ q ∧ (q : Int) < 1 + Z 190 22) → ¬ (11 + k ≤ q ∧ (q : Int) < 11 + Z 190 22) → Z' 191 q = Z 191 q) ∧ ∀ i : Nat, k ≤ i → (i : Int) < Z 190 22 → Z' 191 (1 + i) = (if arr Z i then 1 else Z 191 (1 + i)) ∧ Z' 191 (11 + i) = (if arr Z i then Z 191 0 else Z 191 (11 + i)) := by
  intro n
  induction n with
  | zero =>
    intro k Z hR hk
    obtain ⟨b1, b2, b3, b4, b5, hm⟩ := id hR
    have hlt : ¬ (k : Int) < Z 190 22 := by omega
    refine ⟨Z, ?_, fun _ _ => rfl, fun _ _ _ => rfl, fun i h1 h2 => by omega⟩
    rw [q_157_181]
    simp (disch := first | assumption | decide +kernel | omega | (split <;> omega)) only [q_157_0, q_157_1, q_157_4, q_157_5, q_157_6, q_157_7, q_157_8, q_157_11, q_157_14, q_157_15, q_157_18, q_157_21, q_157_22, q_157_23, q_157_24, q_157_25, q_157_28, q_157_31, q_157_32, q_157_33, q_157_34, q_157_35, q_157_38, q_157_39, q_157_40, q_157_43, q_157_44, q_157_47, q_157_50, q_157_51, q_157_52, q_157_55, q_157_58, q_157_59, q_157_62, q_157_63, q_157_64, q_157_65, q_157_68, q_157_71, q_157_72, q_157_73, q_157_74, q_157_75, q_157_76, q_157_77, q_157_78, q_157_79, q_157_80, q_157_83, q_157_84, q_157_87, q_157_88, q_157_89, q_157_90, q_157_91, q_157_94, q_157_95, q_157_96, q_157_99, q_157_100, q_157_103, q_157_104, q_157_105, q_157_106, q_157_109, q_157_110, q_157_111, q_157_112, q_157_113, q_157_116, q_157_117, q_157_120, q_157_121, q_157_122, q_157_123, q_157_126, q_157_127, q_157_130, q_157_131, q_157_132, q_157_133, q_157_134, q_157_135, q_157_138, q_157_139, q_157_142, q_157_143, q_157_144, q_157_145, q_157_148, q_157_149, q_157_152, q_157_153, q_157_154, q_157_157, q_157_158, q_157_159, q_157_160, q_157_163, q_157_166, q_157_169, q_157_170, q_157_173, q_157_174, q_157_175, q_157_176, q_157_177, q_157_178, q_157_179, q_157_180, q_157_182, q_157_183, q_157_186, q_157_189, q_157_190, q_157_191, q_157_194, q_157_197, q_157_198, q_157_199, q_157_200, q_157_203, q_157_204, q_157_205, q_157_208, q_157_209, q_157_210, q_157_211, q_157_214, q_157_215, q_157_216, q_157_219, q_157_222, q_157_223, q_157_226, q_157_227, q_157_228, q_157_229, q_157_230, q_157_231, q_157_232, q_157_235, q_157_237, q_157_238, q_157_239, q_157_240, q_157_243, q_157_244, q_157_245, q_157_246, q_157_249, q_157_252, pm_some, Option.toList_some, Option.toList_none, List.cons_append, List.nil_append, pm_i0, pm_i1, Nat.reduceAdd, Nat.reduceMul, Int.toNat_natCast, Int.toNat_zero, not_true_eq_false, not_false_eq_true, and_self, true_and, and_true, ↓reduceIte, Int.reduceEq, Int.reduceLT, Int.reduceLE, Int.reduceNeg, Bool.false_eq_true, hlt]
  | succ n ih =>
    intro k Z hR hk
    obtain ⟨b1, b2, b3, b4, b5, hm⟩ := id hR
    have hlt : (k : Int) < Z 190 22 := by omega
    obtain ⟨⟨m1, m2, m3, m4⟩, -, m5, m6⟩ := hm k hlt
    have k0 : 0 ≤ (k : Int) := by omega
    have k10 : (k : Int) < 10 := by omega
    have e1 : (1 + (k : Int)).toNat = 1 + k := by omega
    have e2 : (11 + (k : Int)).toNat = 11 + k := by omega
    have e3 : (31 + 8 * (k : Int) + Z 206 k).toNat = 31 + 8 * k + (Z 206 k).toNat := by omega
    have e4 : (31 + 8 * (k : Int) + Z 205 k).toNat = 31 + 8 * k + (Z 205 k).toNat := by omega
    have hu := c_R_isUnderWay (k : Int) L Z W k0 k10 (by rw [e1]; exact m5)
    rw [e1] at hu
    have r5 := m6 (Z 205 k).toNat (by split <;> omega) (by split <;> omega)
    have r6 := m6 (Z 206 k).toNat (by split <;> omega) (by split <;> omega)
    have c5 := c_R_copyLong (k : Int) (Z 205 k) L Z W k0 k10 m1 (by omega)
    have c6 := c_R_copyLong (k : Int) (Z 206 k) L Z W k0 k10 m3 (by omega)
    rw [e4] at c5
    rw [e3] at c6
    have skip : ¬ arr Z k → pm_D (157, 181, [.ref 190, .int (pm_J (k : Int)), v2, v3], [], pm_hp L Z W) = pm_D (157, 181, [.ref 190, .int (pm_J ((k : Int) + 1)), v2, v3], [], pm_hp L Z W) → ∃ Z', pm_D (157, 181, [.ref 190, .int (pm_J (k : Int)), v2, v3], [], pm_hp L Z W) = some (none, pm_hp L Z' W) ∧ (∀ a, a ≠ 191 → Z' a = Z a) ∧ (∀ q : Nat, ¬ (1 + k ≤ q ∧ (q : Int) < 1 + Z 190 22) → ¬ (11 + k ≤ q ∧ (q : Int) < 11 + Z 190 22) → Z' 191 q = Z 191 q) ∧ ∀ i : Nat, k ≤ i → (i : Int) < Z 190 22 → Z' 191 (1 + i) = (if arr Z i then 1 else Z 191 (1 + i)) ∧ Z' 191 (11 + i) = (if arr Z i then Z 191 0 else Z 191 (11 + i)) := by
      intro hn he
      obtain ⟨Z', e, f, g, h⟩ := ih (k + 1) Z hR (by omega)
      rw [show (((k + 1 : Nat)) : Int) = (k : Int) + 1 by omega] at e
      refine ⟨Z', he.trans e, f, fun q q1 q2 => g q (by omega) (by omega), fun i h1 h2 => ?_⟩
      by_cases hik : i = k
      · subst hik
        rw [if_neg hn, if_neg hn]
        exact ⟨g _ (by omega) (by omega), g _ (by omega) (by omega)⟩
      · exact h i (by omega) h2
    by_cases x1 : Z 191 (1 + k) = 0
    · by_cases x2 : Z 191 (31 + 8 * k + (Z 206 k).toNat) = Z 191 (31 + 8 * k + (Z 205 k).toNat)
      · have ha : arr Z k := ⟨x1, x2⟩
        have r0 : pm_up (pm_up Z 191 (1 + k) 1) 191 (11 + k) (Z 191 0) 190 = Z 190 := by rw [pm_up_row (by omega), pm_up_row (by omega)]
        have rr : ∀ a, a ≠ 191 → pm_up (pm_up Z 191 (1 + k) 1) 191 (11 + k) (Z 191 0) a = Z a := fun a h => by rw [pm_up_row h, pm_up_row h]
        have rq : ∀ q, q ≠ 1 + k → q ≠ 11 + k → pm_up (pm_up Z 191 (1 + k) 1) 191 (11 + k) (Z 191 0) 191 q = Z 191 q := fun q h1 h2 => by rw [pm_up_ne (by omega), pm_up_ne (by omega)]
        have z0 : pm_up Z 191 (1 + k) 1 191 0 = Z 191 0 := pm_up_ne (by omega)
        have hstep : pm_D (157, 181, [.ref 190, .int (pm_J (k : Int)), v2, v3], [], pm_hp L Z W) = pm_D (157, 181, [.ref 190, .int (pm_J ((k : Int) + 1)), v2, v3], [], pm_hp L (pm_up (pm_up Z 191 (1 + k) 1) 191 (11 + k) (Z 191 0)) W) := by
          rw [q_157_181 190 (k : Int)]
          simp (disch := first | assumption | decide +kernel | omega | (split <;> omega)) only [q_157_0, q_157_1, q_157_4, q_157_5, q_157_6, q_157_7, q_157_8, q_157_11, q_157_14, q_157_15, q_157_18, q_157_21, q_157_22, q_157_23, q_157_24, q_157_25, q_157_28, q_157_31, q_157_32, q_157_33, q_157_34, q_157_35, q_157_38, q_157_39, q_157_40, q_157_43, q_157_44, q_157_47, q_157_50, q_157_51, q_157_52, q_157_55, q_157_58, q_157_59, q_157_62, q_157_63, q_157_64, q_157_65, q_157_68, q_157_71, q_157_72, q_157_73, q_157_74, q_157_75, q_157_76, q_157_77, q_157_78, q_157_79, q_157_80, q_157_83, q_157_84, q_157_87, q_157_88, q_157_89, q_157_90, q_157_91, q_157_94, q_157_95, q_157_96, q_157_99, q_157_100, q_157_103, q_157_104, q_157_105, q_157_106, q_157_109, q_157_110, q_157_111, q_157_112, q_157_113, q_157_116, q_157_117, q_157_120, q_157_121, q_157_122, q_157_123, q_157_126, q_157_127, q_157_130, q_157_131, q_157_132, q_157_133, q_157_134, q_157_135, q_157_138, q_157_139, q_157_142, q_157_143, q_157_144, q_157_145, q_157_148, q_157_149, q_157_152, q_157_153, q_157_154, q_157_157, q_157_158, q_157_159, q_157_160, q_157_163, q_157_166, q_157_169, q_157_170, q_157_173, q_157_174, q_157_175, q_157_176, q_157_177, q_157_178, q_157_179, q_157_180, q_157_182, q_157_183, q_157_186, q_157_189, q_157_190, q_157_191, q_157_194, q_157_197, q_157_198, q_157_199, q_157_200, q_157_203, q_157_204, q_157_205, q_157_208, q_157_209, q_157_210, q_157_211, q_157_214, q_157_215, q_157_216, q_157_219, q_157_222, q_157_223, q_157_226, q_157_227, q_157_228, q_157_229, q_157_230, q_157_231, q_157_232, q_157_235, q_157_237, q_157_238, q_157_239, q_157_240, q_157_243, q_157_244, q_157_245, q_157_246, q_157_249, q_157_252, pm_some, Option.toList_some, Option.toList_none, List.cons_append, List.nil_append, pm_i0, pm_i1, Nat.reduceAdd, Nat.reduceMul, Int.toNat_natCast, Int.toNat_zero, not_true_eq_false, not_false_eq_true, and_self, true_and, and_true, ↓reduceIte, Int.reduceEq, Int.reduceLT, Int.reduceLE, Int.reduceNeg, Bool.false_eq_true, hlt, hu, x1, c5, c6, x2, e1, e2, z0]
        have v1 : pm_up (pm_up Z 191 (1 + k) 1) 191 (11 + k) (Z 191 0) 191 (1 + k) = 1 := by rw [pm_up_ne (by omega), pm_up_same]
        have v2' : pm_up (pm_up Z 191 (1 + k) 1) 191 (11 + k) (Z 191 0) 191 (11 + k) = Z 191 0 := by rw [pm_up_same]
        generalize pm_up (pm_up Z 191 (1 + k) 1) 191 (11 + k) (Z 191 0) = Y at r0 rr rq hstep v1 v2'
        have hRY : rok Y := by
          refine ⟨by rw [r0]; exact b1, by rw [r0]; exact b2, by rw [r0]; exact b3, by rw [r0]; exact b4, by rw [r0]; exact b5, fun i hi => ?_⟩
          rw [r0] at hi
          rw [r0, rr 205 (by omega), rr 206 (by omega), rr 207 (by omega)]
          obtain ⟨y1, y2, y3, y4⟩ := hm i hi
          refine ⟨y1, y2, ?_, fun t t1 t2 => ?_⟩
          · by_cases hik : i = k
            · subst hik
              rw [v1]
              decide
            · rw [rq _ (by omega) (by omega)]
              exact y3
          · rw [rq _ (by omega) (by omega)]
            exact y4 t t1 t2
        obtain ⟨Z', e, f, g, h⟩ := ih (k + 1) Y hRY (by rw [r0]; omega)
        rw [r0] at g h
        rw [show (((k + 1 : Nat)) : Int) = (k : Int) + 1 by omega] at e
        refine ⟨Z', hstep.trans e, fun a q => by rw [f a q, rr a q], fun q q1 q2 => by rw [g q (by omega) (by omega), rq q (by omega) (by omega)], fun i h1 h2 => ?_⟩
        by_cases hik : i = k
        · subst hik
          rw [if_pos ha, if_pos ha, g _ (by omega) (by omega), g _ (by omega) (by omega)]
          exact ⟨v1, v2'⟩
        · have hi := h i (by omega) h2
          obtain ⟨⟨y1, y2, y3, y4⟩, -⟩ := hm i h2
          have hc : arr Y i ↔ arr Z i := arr_congr (rq _ (by omega) (by omega)) (rr _ (by omega)) (rr _ (by omega)) (fun q _ _ => rq q (by omega) (by omega)) (by omega) ⟨by omega, by omega⟩ ⟨by omega, by omega⟩
          simp only [hc, rq 0 (by omega) (by omega), rq (1 + i) (by omega) (by omega), rq (11 + i) (by omega) (by omega)] at hi
          exact hi
      · refine skip (fun q => x2 q.2) ?_
        rw [q_157_181 190 (k : Int)]
        simp (disch := first | assumption | decide +kernel | omega | (split <;> omega)) only [q_157_0, q_157_1, q_157_4, q_157_5, q_157_6, q_157_7, q_157_8, q_157_11, q_157_14, q_157_15, q_157_18, q_157_21, q_157_22, q_157_23, q_157_24, q_157_25, q_157_28, q_157_31, q_157_32, q_157_33, q_157_34, q_157_35, q_157_38, q_157_39, q_157_40, q_157_43, q_157_44, q_157_47, q_157_50, q_157_51, q_157_52, q_157_55, q_157_58, q_157_59, q_157_62, q_157_63, q_157_64, q_157_65, q_157_68, q_157_71, q_157_72, q_157_73, q_157_74, q_157_75, q_157_76, q_157_77, q_157_78, q_157_79, q_157_80, q_157_83, q_157_84, q_157_87, q_157_88, q_157_89, q_157_90, q_157_91, q_157_94, q_157_95, q_157_96, q_157_99, q_157_100, q_157_103, q_157_104, q_157_105, q_157_106, q_157_109, q_157_110, q_157_111, q_157_112, q_157_113, q_157_116, q_157_117, q_157_120, q_157_121, q_157_122, q_157_123, q_157_126, q_157_127, q_157_130, q_157_131, q_157_132, q_157_133, q_157_134, q_157_135, q_157_138, q_157_139, q_157_142, q_157_143, q_157_144, q_157_145, q_157_148, q_157_149, q_157_152, q_157_153, q_157_154, q_157_157, q_157_158, q_157_159, q_157_160, q_157_163, q_157_166, q_157_169, q_157_170, q_157_173, q_157_174, q_157_175, q_157_176, q_157_177, q_157_178, q_157_179, q_157_180, q_157_182, q_157_183, q_157_186, q_157_189, q_157_190, q_157_191, q_157_194, q_157_197, q_157_198, q_157_199, q_157_200, q_157_203, q_157_204, q_157_205, q_157_208, q_157_209, q_157_210, q_157_211, q_157_214, q_157_215, q_157_216, q_157_219, q_157_222, q_157_223, q_157_226, q_157_227, q_157_228, q_157_229, q_157_230, q_157_231, q_157_232, q_157_235, q_157_237, q_157_238, q_157_239, q_157_240, q_157_243, q_157_244, q_157_245, q_157_246, q_157_249, q_157_252, pm_some, Option.toList_some, Option.toList_none, List.cons_append, List.nil_append, pm_i0, pm_i1, Nat.reduceAdd, Nat.reduceMul, Int.toNat_natCast, Int.toNat_zero, not_true_eq_false, not_false_eq_true, and_self, true_and, and_true, ↓reduceIte, Int.reduceEq, Int.reduceLT, Int.reduceLE, Int.reduceNeg, Bool.false_eq_true, hlt, hu, x1, c5, c6, x2]
    · refine skip (fun q => x1 q.1) ?_
      rw [q_157_181 190 (k : Int)]
      simp (disch := first | assumption | decide +kernel | omega | (split <;> omega)) only [q_157_0, q_157_1, q_157_4, q_157_5, q_157_6, q_157_7, q_157_8, q_157_11, q_157_14, q_157_15, q_157_18, q_157_21, q_157_22, q_157_23, q_157_24, q_157_25, q_157_28, q_157_31, q_157_32, q_157_33, q_157_34, q_157_35, q_157_38, q_157_39, q_157_40, q_157_43, q_157_44, q_157_47, q_157_50, q_157_51, q_157_52, q_157_55, q_157_58, q_157_59, q_157_62, q_157_63, q_157_64, q_157_65, q_157_68, q_157_71, q_157_72, q_157_73, q_157_74, q_157_75, q_157_76, q_157_77, q_157_78, q_157_79, q_157_80, q_157_83, q_157_84, q_157_87, q_157_88, q_157_89, q_157_90, q_157_91, q_157_94, q_157_95, q_157_96, q_157_99, q_157_100, q_157_103, q_157_104, q_157_105, q_157_106, q_157_109, q_157_110, q_157_111, q_157_112, q_157_113, q_157_116, q_157_117, q_157_120, q_157_121, q_157_122, q_157_123, q_157_126, q_157_127, q_157_130, q_157_131, q_157_132, q_157_133, q_157_134, q_157_135, q_157_138, q_157_139, q_157_142, q_157_143, q_157_144, q_157_145, q_157_148, q_157_149, q_157_152, q_157_153, q_157_154, q_157_157, q_157_158, q_157_159, q_157_160, q_157_163, q_157_166, q_157_169, q_157_170, q_157_173, q_157_174, q_157_175, q_157_176, q_157_177, q_157_178, q_157_179, q_157_180, q_157_182, q_157_183, q_157_186, q_157_189, q_157_190, q_157_191, q_157_194, q_157_197, q_157_198, q_157_199, q_157_200, q_157_203, q_157_204, q_157_205, q_157_208, q_157_209, q_157_210, q_157_211, q_157_214, q_157_215, q_157_216, q_157_219, q_157_222, q_157_223, q_157_226, q_157_227, q_157_228, q_157_229, q_157_230, q_157_231, q_157_232, q_157_235, q_157_237, q_157_238, q_157_239, q_157_240, q_157_243, q_157_244, q_157_245, q_157_246, q_157_249, q_157_252, pm_some, Option.toList_some, Option.toList_none, List.cons_append, List.nil_append, pm_i0, pm_i1, Nat.reduceAdd, Nat.reduceMul, Int.toNat_natCast, Int.toNat_zero, not_true_eq_false, not_false_eq_true, and_self, true_and, and_true, ↓reduceIte, Int.reduceEq, Int.reduceLT, Int.reduceLE, Int.reduceNeg, Bool.false_eq_true, hlt, hu, x1]
/-- the class's start of a minute -/
def St (o : Nat) (Y Y' : Nat → Nat → Int) : Prop :=
  (∀ b, b ≠ o → ¬ (o + 11 ≤ b ∧ b ≤ o + 14) → Y' b = Y b) ∧ (∀ q, Y' o q = if q = 3 then Y o 3 + 1 else if q = 11 then 1 else Y o q) ∧ (∀ t, Y' (o + 11) t = if t < 8 then 0 else Y (o + 11) t) ∧
  (∀ l : Nat, Y' (o + 12) l = if l < 7 then md_bl (Y (o + 1 + 1)) (Y (o + 1 + 2)) (Y (o + 1 + 3)) (Y o 3) l (Y (o + 1) 5).toNat 0 (if Y (o + 1) 1 ≤ Y o 3 % Y (o + 1) 0 then 1 else 0) else Y (o + 12) l) ∧
  (∀ u : Nat, Y' (o + 13) u = if (u : Int) < Y o 2 then (cm_pick o Y u (Y o 4).toNat).1 else Y (o + 13) u) ∧ (∀ u : Nat, Y' (o + 14) u = if (u : Int) < Y o 2 then (cm_pick o Y u (Y o 4).toNat).2 else Y (o + 14) u)
theorem c_start {o : Nat} (ho : pm_isL o) (L : Nat) (Z : Nat → Nat → Int) (W : Nat → Nat) (h20 : 0 ≤ Z o 2) (h2 : Z o 2 ≤ 8) (hc0 : 0 ≤ Z o 4) (hc : Z o 4 ≤ 10) (h11 : 0 ≤ Z o 11) (h11' : Z o 11 ≤ 1) (hok : ∀ i : Nat, (i : Int) < Z o 4 → cm_ok Z (o + 9 + 6 + 5 * i)) (ht : Z o 11 = 1 → ∀ u : Nat, (u : Int) < Z o 2 → Z (o + 13) u = (cm_pick o Z u (Z o 4).toNat).1 ∧ Z (o + 14) u = (cm_pick o Z u (Z o 4).toNat).2) (t0 : 0 ≤ Z o 3) (t1 : Z o 3 < 1000000) (g0 : 1 ≤ Z (o + 1) 0) (g1 : Z (o + 1) 0 ≤ 10000) (g2 : 1 ≤ Z (o + 1) 1) (g3 : Z (o + 1) 1 ≤ 10000) (g4 : 0 ≤ Z (o + 1) 5) (g5 : Z (o + 1) 5 ≤ 12) (hv : ∀ i : Nat, (i : Int) < Z (o + 1) 5 → 0 ≤ Z (o + 1 + 1) i ∧ Z (o + 1 + 1) i < 7 ∧ pm_r (Z (o + 1 + 2) i) ∧ pm_r (Z (o + 1 + 3) i)) : ∃ Z', pm_D (28, 0, [.ref o, .null], [], pm_hp L Z W) = pm_D (28, 35, [.ref o, .int (pm_J 0)], [], pm_hp L Z' W) ∧ St o Z Z' := by
  have hx : o = 46 ∨ o = 118 := ho
  obtain ⟨k1, k2, -⟩ := pm_kdL ho
  obtain ⟨Z1, e1, f1, f1o, f1e, f1n, f1p⟩ := c_chooseTasks ho L Z W h20 h2 hc0 hc h11 h11' hok ht
  obtain ⟨Z2, e2, f2, f2n, f2c⟩ := c_clearShown ho L Z1 W
  have r0 : Z2 o = Z1 o := f2 o (by omega)
  have r1 : Z2 (o + 1) = Z (o + 1) := by rw [f2 _ (by omega), f1 _ (by omega) (by omega) (by omega)]
  have r2 : Z2 (o + 1 + 1) = Z (o + 1 + 1) := by rw [f2 _ (by omega), f1 _ (by omega) (by omega) (by omega)]
  have r3 : Z2 (o + 1 + 2) = Z (o + 1 + 2) := by rw [f2 _ (by omega), f1 _ (by omega) (by omega) (by omega)]
  have r4 : Z2 (o + 1 + 3) = Z (o + 1 + 3) := by rw [f2 _ (by omega), f1 _ (by omega) (by omega) (by omega)]
  have r5 : Z2 o 3 = Z o 3 := by rw [r0]; exact f1o 3 (by omega)
  obtain ⟨Z3, e3, f3, f3n, f3b⟩ := c_markBlind ho (Z o 3) L Z2 W t0 (by omega) (by rw [r1]; exact g0) (by rw [r1]; exact g1) (by rw [r1]; exact g2) (by rw [r1]; exact g3) (by rw [r1]; exact g4) (by rw [r1]; exact g5) (by rw [r1, r2, r3, r4]; exact hv)
  rw [r1, r2, r3, r4] at f3b
  have z3 : Z3 o 3 = Z o 3 := by rw [f3 o (by omega)]; exact r5
  refine ⟨pm_up Z3 o 3 (Z o 3 + 1), ?_, fun b h1 h2 => ?_, fun q => ?_, fun t => ?_, fun l => ?_, fun u => ?_, fun u => ?_⟩
  · have h23 : pm_D (28, 23, [.ref o, .null], [], pm_hp L Z3 W) = pm_D (28, 35, [.ref o, .int (pm_J 0)], [], pm_hp L (pm_up Z3 o 3 (Z o 3 + 1)) W) := by
      simp (disch := first | assumption | decide +kernel | omega | (split <;> omega)) only [q_28_0, q_28_1, q_28_4, q_28_5, q_28_8, q_28_9, q_28_12, q_28_13, q_28_16, q_28_17, q_28_20, q_28_23, q_28_24, q_28_25, q_28_28, q_28_29, q_28_30, q_28_33, q_28_34, q_28_36, q_28_37, q_28_40, q_28_41, q_28_42, q_28_45, q_28_46, q_28_49, q_28_50, q_28_51, q_28_54, q_28_55, q_28_58, q_28_59, q_28_60, q_28_61, q_28_64, q_28_65, q_28_66, q_28_69, q_28_72, q_28_73, q_28_74, q_28_77, q_28_80, q_28_81, q_28_82, q_28_83, q_28_86, q_28_87, q_28_90, q_28_91, q_28_92, q_28_93, q_28_96, q_28_99, q_28_102, pm_some, Option.toList_some, Option.toList_none, List.cons_append, List.nil_append, pm_i0, pm_i1, Nat.reduceAdd, Nat.reduceMul, Int.toNat_natCast, Int.toNat_zero, z3]
    simp (disch := first | assumption | decide +kernel | omega | (split <;> omega)) only [q_28_0, q_28_1, q_28_4, q_28_5, q_28_8, q_28_9, q_28_12, q_28_13, q_28_16, q_28_17, q_28_20, q_28_24, q_28_25, q_28_28, q_28_29, q_28_30, q_28_33, q_28_34, q_28_36, q_28_37, q_28_40, q_28_41, q_28_42, q_28_45, q_28_46, q_28_49, q_28_50, q_28_51, q_28_54, q_28_55, q_28_58, q_28_59, q_28_60, q_28_61, q_28_64, q_28_65, q_28_66, q_28_69, q_28_72, q_28_73, q_28_74, q_28_77, q_28_80, q_28_81, q_28_82, q_28_83, q_28_86, q_28_87, q_28_90, q_28_91, q_28_92, q_28_93, q_28_96, q_28_99, q_28_102, pm_some, Option.toList_some, Option.toList_none, List.cons_append, List.nil_append, pm_i0, pm_i1, Nat.reduceAdd, Nat.reduceMul, Int.toNat_natCast, Int.toNat_zero, e1, e2, r5, e3]
    exact h23
  · rw [pm_up_row h1, f3 b (by omega), f2 b (by omega), f1 b h1 (by omega) (by omega)]
  · by_cases c : q = 3
    · subst c
      rw [if_pos rfl, pm_up_same]
    · rw [if_neg c, pm_up_ne (by omega), f3 o (by omega), r0]
      by_cases c2 : q = 11
      · subst c2
        rw [if_pos rfl, f1e]
      · rw [if_neg c2, f1o q c2]
  · rw [pm_up_row (by omega), f3 _ (by omega)]
    by_cases c : t < 8
    · rw [if_pos c, f2c t c]
    · rw [if_neg c, f2n t (by omega), f1 _ (by omega) (by omega) (by omega)]
  · rw [pm_up_row (by omega)]
    by_cases c : l < 7
    · rw [if_pos c, f3b l c]
    · rw [if_neg c, f3n l (by omega), f2 _ (by omega), f1 _ (by omega) (by omega) (by omega)]
  · rw [pm_up_row (by omega), f3 _ (by omega), f2 _ (by omega)]
    by_cases c : (u : Int) < Z o 2
    · rw [if_pos c, (f1p u c).1]
    · rw [if_neg c, (f1n u (by omega)).1]
  · rw [pm_up_row (by omega), f3 _ (by omega), f2 _ (by omega)]
    by_cases c : (u : Int) < Z o 2
    · rw [if_pos c, (f1p u c).2]
    · rw [if_neg c, (f1n u (by omega)).2]
theorem St_ag {o : Nat} {Y Y' V V' : Nat → Nat → Int} (hc0 : 0 ≤ V o 4) (hc : V o 4 ≤ 10) (A : AgC o Y V) (h : St o Y Y') (g : St o V V') : AgC o Y' V' := by
  obtain ⟨h1, h2, h3, h4, h5, h6⟩ := h
  obtain ⟨g1, g2, g3, g4, g5, g6⟩ := g
  have ao := A o (by omega) (by omega)
  have hp : ∀ u : Int, cm_pick o Y u (Y o 4).toNat = cm_pick o V u (V o 4).toNat := fun u => by
    rw [ao]
    exact cm_pick_congr (n := (V o 4).toNat) (fun i hi => ⟨A _ (by omega) (by omega), A _ (by omega) (by omega)⟩) u _ (Nat.le_refl _)
  intro a ha1 ha2
  by_cases c0 : a = o
  · subst c0
    funext q
    rw [h2, g2, ao]
  · by_cases c1 : a = o + 11
    · subst c1
      funext q
      rw [h3, g3, A (o + 11) (by omega) (by omega)]
    · by_cases c2 : a = o + 12
      · subst c2
        funext q
        rw [h4, g4, A (o + 12) (by omega) (by omega), ao, A (o + 1) (by omega) (by omega), A (o + 1 + 1) (by omega) (by omega), A (o + 1 + 2) (by omega) (by omega), A (o + 1 + 3) (by omega) (by omega)]
      · by_cases c3 : a = o + 13
        · subst c3
          funext q
          rw [h5, g5, A (o + 13) (by omega) (by omega), hp, ao]
        · by_cases c4 : a = o + 14
          · subst c4
            funext q
            rw [h6, g6, A (o + 14) (by omega) (by omega), hp, ao]
          · rw [h1 a c0 (by omega), g1 a c0 (by omega)]
            exact A a ha1 ha2
/-- the model's start of a minute -/
def Sr (Y Y' : Nat → Nat → Int) : Prop :=
  (∀ b, b ≠ 191 → b ≠ 210 → b ≠ 211 → Y' b = Y b) ∧ (∀ q : Nat, Y' 191 q = if 303 ≤ q ∧ (q : Int) < 303 + Y 190 0 then 0 else Y 191 q) ∧
  (∀ u : Nat, Y' 210 u = if (u : Int) < Y 190 0 then (if (rk_pick Y u (Y 190 22).toNat).1 < 0 then -1 else (rk_pick Y u (Y 190 22).toNat).1) else Y 210 u) ∧ (∀ u : Nat, Y' 211 u = if (u : Int) < Y 190 0 ∧ 0 ≤ (rk_pick Y u (Y 190 22).toNat).1 then (rk_pick Y u (Y 190 22).toNat).2 else Y 211 u)
theorem r_start (L : Nat) (Z : Nat → Nat → Int) (W : Nat → Nat) (hR : rok Z) : ∃ Z', pm_D (157, 0, [.ref 190, .null, .null, .null], [], pm_hp L Z W) = pm_D (157, 33, [.ref 190, .int (pm_J 0), .null, .null], [], pm_hp L Z' W) ∧ Sr Z Z' := by
  obtain ⟨b1, b2, b3, b4, b5, hm⟩ := id hR
  obtain ⟨Z1, e1, f1, f1n, f1g, f1p⟩ := c_R_takeAll L Z W hR
  have r0 : Z1 190 = Z 190 := f1 190 (by omega) (by omega)
  obtain ⟨Z2, e2, f2, g2⟩ := l_R_clear L W .null .null (Z 190 0).toNat 0 Z1 (by rw [r0]; exact b2) (by rw [r0]; omega)
  rw [r0] at e2 g2
  rw [show (((0 : Nat)) : Int) = 0 from rfl] at e2
  refine ⟨Z2, ?_, fun b h1 h2 h3 => by rw [f2 b h1, f1 b h2 h3], fun q => ?_, fun u => ?_, fun u => ?_⟩
  · have h31 : pm_D (157, 31, [.ref 190, .int (pm_J (Z 190 0)), .null, .null], [], pm_hp L Z2 W) = pm_D (157, 33, [.ref 190, .int (pm_J 0), .null, .null], [], pm_hp L Z2 W) := by
      simp (disch := first | assumption | decide +kernel | omega | (split <;> omega)) only [q_157_0, q_157_1, q_157_4, q_157_5, q_157_6, q_157_7, q_157_8, q_157_11, q_157_14, q_157_15, q_157_18, q_157_21, q_157_22, q_157_23, q_157_24, q_157_25, q_157_28, q_157_31, q_157_32, q_157_34, q_157_35, q_157_38, q_157_39, q_157_40, q_157_43, q_157_44, q_157_47, q_157_50, q_157_51, q_157_52, q_157_55, q_157_58, q_157_59, q_157_62, q_157_63, q_157_64, q_157_65, q_157_68, q_157_71, q_157_72, q_157_73, q_157_74, q_157_75, q_157_76, q_157_77, q_157_78, q_157_79, q_157_80, q_157_83, q_157_84, q_157_87, q_157_88, q_157_89, q_157_90, q_157_91, q_157_94, q_157_95, q_157_96, q_157_99, q_157_100, q_157_103, q_157_104, q_157_105, q_157_106, q_157_109, q_157_110, q_157_111, q_157_112, q_157_113, q_157_116, q_157_117, q_157_120, q_157_121, q_157_122, q_157_123, q_157_126, q_157_127, q_157_130, q_157_131, q_157_132, q_157_133, q_157_134, q_157_135, q_157_138, q_157_139, q_157_142, q_157_143, q_157_144, q_157_145, q_157_148, q_157_149, q_157_152, q_157_153, q_157_154, q_157_157, q_157_158, q_157_159, q_157_160, q_157_163, q_157_166, q_157_169, q_157_170, q_157_173, q_157_174, q_157_175, q_157_176, q_157_177, q_157_178, q_157_179, q_157_180, q_157_181, q_157_182, q_157_183, q_157_186, q_157_189, q_157_190, q_157_191, q_157_194, q_157_197, q_157_198, q_157_199, q_157_200, q_157_203, q_157_204, q_157_205, q_157_208, q_157_209, q_157_210, q_157_211, q_157_214, q_157_215, q_157_216, q_157_219, q_157_222, q_157_223, q_157_226, q_157_227, q_157_228, q_157_229, q_157_230, q_157_231, q_157_232, q_157_235, q_157_237, q_157_238, q_157_239, q_157_240, q_157_243, q_157_244, q_157_245, q_157_246, q_157_249, q_157_252, pm_some, Option.toList_some, Option.toList_none, List.cons_append, List.nil_append, pm_i0, pm_i1, Nat.reduceAdd, Nat.reduceMul, Int.toNat_natCast, Int.toNat_zero]
    simp (disch := first | assumption | decide +kernel | omega | (split <;> omega)) only [q_157_0, q_157_1, q_157_4, q_157_5, q_157_7, q_157_8, q_157_11, q_157_14, q_157_15, q_157_18, q_157_21, q_157_22, q_157_23, q_157_24, q_157_25, q_157_28, q_157_32, q_157_34, q_157_35, q_157_38, q_157_39, q_157_40, q_157_43, q_157_44, q_157_47, q_157_50, q_157_51, q_157_52, q_157_55, q_157_58, q_157_59, q_157_62, q_157_63, q_157_64, q_157_65, q_157_68, q_157_71, q_157_72, q_157_73, q_157_74, q_157_75, q_157_76, q_157_77, q_157_78, q_157_79, q_157_80, q_157_83, q_157_84, q_157_87, q_157_88, q_157_89, q_157_90, q_157_91, q_157_94, q_157_95, q_157_96, q_157_99, q_157_100, q_157_103, q_157_104, q_157_105, q_157_106, q_157_109, q_157_110, q_157_111, q_157_112, q_157_113, q_157_116, q_157_117, q_157_120, q_157_121, q_157_122, q_157_123, q_157_126, q_157_127, q_157_130, q_157_131, q_157_132, q_157_133, q_157_134, q_157_135, q_157_138, q_157_139, q_157_142, q_157_143, q_157_144, q_157_145, q_157_148, q_157_149, q_157_152, q_157_153, q_157_154, q_157_157, q_157_158, q_157_159, q_157_160, q_157_163, q_157_166, q_157_169, q_157_170, q_157_173, q_157_174, q_157_175, q_157_176, q_157_177, q_157_178, q_157_179, q_157_180, q_157_181, q_157_182, q_157_183, q_157_186, q_157_189, q_157_190, q_157_191, q_157_194, q_157_197, q_157_198, q_157_199, q_157_200, q_157_203, q_157_204, q_157_205, q_157_208, q_157_209, q_157_210, q_157_211, q_157_214, q_157_215, q_157_216, q_157_219, q_157_222, q_157_223, q_157_226, q_157_227, q_157_228, q_157_229, q_157_230, q_157_231, q_157_232, q_157_235, q_157_237, q_157_238, q_157_239, q_157_240, q_157_243, q_157_244, q_157_245, q_157_246, q_157_249, q_157_252, pm_some, Option.toList_some, Option.toList_none, List.cons_append, List.nil_append, pm_i0, pm_i1, Nat.reduceAdd, Nat.reduceMul, Int.toNat_natCast, Int.toNat_zero, e1]
    rw [e2]
    exact h31
  · rw [g2, f1 191 (by omega) (by omega)]
  · rw [f2 _ (by omega)]
    by_cases c : (u : Int) < Z 190 0
    · rw [if_pos c, (f1p u c).1]
    · rw [if_neg c, (f1n u (by omega)).1]
  · rw [f2 _ (by omega)]
    by_cases c : (u : Int) < Z 190 0
    · by_cases c2 : 0 ≤ (rk_pick Z u (Z 190 22).toNat).1
      · rw [if_pos ⟨c, c2⟩, (f1p u c).2 c2]
      · rw [if_neg (fun q => c2 q.2), f1g u c (by omega)]
    · rw [if_neg (fun q => c q.1), (f1n u (by omega)).2]
theorem rk_pick_congr {Z Z' : Nat → Nat → Int} (h0 : Z' 190 = Z 190) (h1 : Z' 191 = Z 191) (h5 : Z' 205 = Z 205) (h6 : Z' 206 = Z 206) (h7 : Z' 207 = Z 207) (t : Int) (k : Nat) : rk_pick Z' t k = rk_pick Z t k := by
  induction k with
  | zero => rfl
  | succ k ih =>
    rw [rk_pick_succ, rk_pick_succ, ih]
    unfold rk_lk rk_can md_can md_rk
    rw [h0, h1, h5, h6, h7]
theorem Sr_ag {Y Y' V V' : Nat → Nat → Int} (A : AgR Y V) (h : Sr Y Y') (g : Sr V V') : AgR Y' V' := by
  obtain ⟨h1, h2, h3, h4⟩ := h
  obtain ⟨g1, g2, g3, g4⟩ := g
  have a0 := A 190 (by omega) (by omega)
  have a1 := A 191 (by omega) (by omega)
  have hp : ∀ u : Int, rk_pick Y u (Y 190 22).toNat = rk_pick V u (V 190 22).toNat := fun u => by
    rw [a0]
    exact rk_pick_congr a0 a1 (A _ (by omega) (by omega)) (A _ (by omega) (by omega)) (A _ (by omega) (by omega)) u _
  intro a ha1 ha2
  by_cases c0 : a = 191
  · subst c0
    funext q
    rw [h2, g2, a0, a1]
  · by_cases c1 : a = 210
    · subst c1
      funext u
      rw [h3, g3, hp, a0, A 210 (by omega) (by omega)]
    · by_cases c2 : a = 211
      · subst c2
        funext u
        rw [h4, g4, hp, a0, A 211 (by omega) (by omega)]
      · rw [h1 a c0 c1 c2, g1 a c0 c1 c2]
        exact A a ha1 ha2
/-- the model's end of a minute -/
def Se (Y Y' : Nat → Nat → Int) : Prop :=
  (∀ b, b ≠ 191 → Y' b = Y b) ∧ Y' 191 0 = Y 191 0 + 1 ∧ (∀ q : Nat, q ≠ 0 → ¬ (1 ≤ q ∧ (q : Int) < 1 + Y 190 22) → ¬ (11 ≤ q ∧ (q : Int) < 11 + Y 190 22) → Y' 191 q = Y 191 q) ∧ ∀ i : Nat, (i : Int) < Y 190 22 → Y' 191 (1 + i) = (if arr Y i then 1 else Y 191 (1 + i)) ∧ Y' 191 (11 + i) = (if arr Y i then Y 191 0 + 1 else Y 191 (11 + i))
theorem r_end (w1 : Int) (w2 w3 : Value) (L : Nat) (Z : Nat → Nat → Int) (W : Nat → Nat) (hR : rok Z) (t0 : 0 ≤ Z 191 0) (t1 : Z 191 0 < 1000000) : ∃ Z', pm_D (157, 169, [.ref 190, .int (pm_J w1), w2, w3], [], pm_hp L Z W) = some (none, pm_hp L Z' W) ∧ Se Z Z' := by
  obtain ⟨b1, b2, b3, b4, b5, hm⟩ := id hR
  have r0 : pm_up Z 191 0 (Z 191 0 + 1) 190 = Z 190 := pm_up_row (by omega)
  have rr : ∀ a, a ≠ 191 → pm_up Z 191 0 (Z 191 0 + 1) a = Z a := fun a h => pm_up_row h
  have rq : ∀ q, q ≠ 0 → pm_up Z 191 0 (Z 191 0 + 1) 191 q = Z 191 q := fun q h1 => pm_up_ne (by omega)
  have hRY : rok (pm_up Z 191 0 (Z 191 0 + 1)) := by
    refine ⟨by rw [r0]; exact b1, by rw [r0]; exact b2, by rw [r0]; exact b3, by rw [r0]; exact b4, by rw [r0]; exact b5, fun i hi => ?_⟩
    rw [r0] at hi
    rw [r0, rr 205 (by omega), rr 206 (by omega), rr 207 (by omega)]
    obtain ⟨y1, y2, y3, y4⟩ := hm i hi
    exact ⟨y1, y2, by rw [rq _ (by omega)]; exact y3, fun t t1 t2 => by rw [rq _ (by omega)]; exact y4 t t1 t2⟩
  have y0 : pm_up Z 191 0 (Z 191 0 + 1) 191 0 = Z 191 0 + 1 := pm_up_same _ _ _ _
  obtain ⟨Z', e, f, g, h⟩ := l_R_arrive L W w2 w3 (Z 190 22).toNat 0 (pm_up Z 191 0 (Z 191 0 + 1)) hRY (by rw [r0]; omega)
  rw [r0] at g h
  rw [show (((0 : Nat)) : Int) = 0 from rfl] at e
  refine ⟨Z', ?_, fun b hb => by rw [f b hb, rr b hb], ?_, fun q q0 q1 q2 => ?_, fun i hi => ?_⟩
  · simp (disch := first | assumption | decide +kernel | omega | (split <;> omega)) only [q_157_0, q_157_1, q_157_4, q_157_5, q_157_6, q_157_7, q_157_8, q_157_11, q_157_14, q_157_15, q_157_18, q_157_21, q_157_22, q_157_23, q_157_24, q_157_25, q_157_28, q_157_31, q_157_32, q_157_33, q_157_34, q_157_35, q_157_38, q_157_39, q_157_40, q_157_43, q_157_44, q_157_47, q_157_50, q_157_51, q_157_52, q_157_55, q_157_58, q_157_59, q_157_62, q_157_63, q_157_64, q_157_65, q_157_68, q_157_71, q_157_72, q_157_73, q_157_74, q_157_75, q_157_76, q_157_77, q_157_78, q_157_79, q_157_80, q_157_83, q_157_84, q_157_87, q_157_88, q_157_89, q_157_90, q_157_91, q_157_94, q_157_95, q_157_96, q_157_99, q_157_100, q_157_103, q_157_104, q_157_105, q_157_106, q_157_109, q_157_110, q_157_111, q_157_112, q_157_113, q_157_116, q_157_117, q_157_120, q_157_121, q_157_122, q_157_123, q_157_126, q_157_127, q_157_130, q_157_131, q_157_132, q_157_133, q_157_134, q_157_135, q_157_138, q_157_139, q_157_142, q_157_143, q_157_144, q_157_145, q_157_148, q_157_149, q_157_152, q_157_153, q_157_154, q_157_157, q_157_158, q_157_159, q_157_160, q_157_163, q_157_166, q_157_169, q_157_170, q_157_173, q_157_174, q_157_175, q_157_176, q_157_177, q_157_178, q_157_179, q_157_180, q_157_182, q_157_183, q_157_186, q_157_189, q_157_190, q_157_191, q_157_194, q_157_197, q_157_198, q_157_199, q_157_200, q_157_203, q_157_204, q_157_205, q_157_208, q_157_209, q_157_210, q_157_211, q_157_214, q_157_215, q_157_216, q_157_219, q_157_222, q_157_223, q_157_226, q_157_227, q_157_228, q_157_229, q_157_230, q_157_231, q_157_232, q_157_235, q_157_237, q_157_238, q_157_239, q_157_240, q_157_243, q_157_244, q_157_245, q_157_246, q_157_249, q_157_252, pm_some, Option.toList_some, Option.toList_none, List.cons_append, List.nil_append, pm_i0, pm_i1, Nat.reduceAdd, Nat.reduceMul, Int.toNat_natCast, Int.toNat_zero]
    exact e
  · rw [g 0 (by omega) (by omega), y0]
  · rw [g q (by omega) (by omega), rq q q0]
  · have hi' := h i (by omega) hi
    obtain ⟨⟨y1, y2, y3, y4⟩, -⟩ := hm i hi
    have hc : arr (pm_up Z 191 0 (Z 191 0 + 1)) i ↔ arr Z i := arr_congr (rq _ (by omega)) (rr _ (by omega)) (rr _ (by omega)) (fun q _ _ => rq q (by omega)) (by omega) ⟨by omega, by omega⟩ ⟨by omega, by omega⟩
    simp only [hc, y0, rq (1 + i) (by omega), rq (11 + i) (by omega)] at hi'
    exact hi'
theorem Se_ag {Y Y' V V' : Nat → Nat → Int} (A : AgR Y V) (n0 : 0 ≤ V 190 22) (n10 : V 190 22 ≤ 10) (h : Se Y Y') (g : Se V V') : AgR Y' V' := by
  obtain ⟨h1, h2, h3, h4⟩ := h
  obtain ⟨g1, g2, g3, g4⟩ := g
  have a0 := A 190 (by omega) (by omega)
  have a1 := A 191 (by omega) (by omega)
  have ha : ∀ i, arr Y i ↔ arr V i := fun i => by
    unfold arr
    rw [a1, A 205 (by omega) (by omega), A 206 (by omega) (by omega)]
  rw [a0] at h3 h4
  intro a ha1 ha2
  by_cases c0 : a = 191
  · subst c0
    funext q
    by_cases q0 : q = 0
    · subst q0
      rw [h2, g2, a1]
    · by_cases q1 : 1 ≤ q ∧ (q : Int) < 1 + V 190 22
      · obtain ⟨i, rfl⟩ : ∃ i, q = 1 + i := ⟨q - 1, by omega⟩
        rw [(h4 i (by omega)).1, (g4 i (by omega)).1]
        by_cases hh : arr V i
        · rw [if_pos hh, if_pos ((ha i).mpr hh)]
        · rw [if_neg hh, if_neg (fun k => hh ((ha i).mp k)), a1]
      · by_cases q2 : 11 ≤ q ∧ (q : Int) < 11 + V 190 22
        · obtain ⟨i, rfl⟩ : ∃ i, q = 11 + i := ⟨q - 11, by omega⟩
          rw [(h4 i (by omega)).2, (g4 i (by omega)).2]
          by_cases hh : arr V i
          · rw [if_pos hh, if_pos ((ha i).mpr hh), a1]
          · rw [if_neg hh, if_neg (fun k => hh ((ha i).mp k)), a1]
        · rw [h3 q q0 q1 q2, g3 q q0 q1 q2, a1]
  · rw [h1 a c0, g1 a c0]
    exact A a ha1 ha2
