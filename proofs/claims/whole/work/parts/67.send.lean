/-! a message is sent -/
theorem l_mb1 {a : Nat} (k1 : pm_kd a = 4) (k2 : pm_kd (a + 2) = 11) (k3 : pm_ln (a + 2) = 8) (x1 x2 x3 x4 : Int) (L : Nat) (W : Nat → Nat) : ∀ (n k : Nat) (Z : Nat → Nat → Int), k + n = 8 → ∃ Z', pm_D (39, 71, [.ref a, .int (pm_J x1), .int (pm_J x2), .int (pm_J x3), .int (pm_J x4), .int (pm_J (k : Int))], [], pm_hp L Z W) = pm_D (39, 92, [.ref a, .int (pm_J x1), .int (pm_J x2), .int (pm_J x3), .int (pm_J x4), .int (pm_J 8)], [], pm_hp L Z' W) ∧ (∀ b, b ≠ a + 2 → Z' b = Z b) ∧ ∀ q, q < 8 → Z' (a + 2) q = if k ≤ q then 0 else Z (a + 2) q := by
  intro n
  induction n with
  | zero =>
    intro k Z hk
    obtain rfl : k = 8 := by omega
    refine ⟨Z, ?_, fun _ _ => rfl, fun q hq => by rw [if_neg (by omega)]⟩
    rw [q_39_71]
    simp (disch := first | assumption | decide +kernel | omega | (split <;> omega)) only [q_39_0, q_39_1, q_39_2, q_39_5, q_39_6, q_39_7, q_39_10, q_39_11, q_39_12, q_39_13, q_39_16, q_39_17, q_39_20, q_39_21, q_39_24, q_39_25, q_39_26, q_39_27, q_39_30, q_39_33, q_39_34, q_39_35, q_39_36, q_39_39, q_39_42, q_39_43, q_39_44, q_39_47, q_39_48, q_39_49, q_39_52, q_39_53, q_39_55, q_39_58, q_39_59, q_39_60, q_39_63, q_39_64, q_39_65, q_39_68, q_39_69, q_39_73, q_39_75, q_39_78, q_39_79, q_39_82, q_39_84, q_39_85, q_39_86, q_39_89, q_39_93, q_39_95, q_39_97, q_39_99, q_39_102, q_39_103, q_39_106, q_39_108, q_39_109, q_39_110, q_39_111, q_39_114, q_39_116, q_39_117, q_39_118, q_39_121, q_39_124, pm_some, Option.toList_some, Option.toList_none, List.cons_append, List.nil_append, pm_i0, pm_i1, Nat.reduceAdd, Nat.reduceMul, Int.toNat_natCast, Int.toNat_zero, not_true_eq_false, not_false_eq_true, and_self, true_and, and_true, ↓reduceIte, Int.reduceEq, Int.reduceLT, Int.reduceLE, Int.reduceNeg, Bool.false_eq_true, Int.lt_irrefl, Int.cast_ofNat_Int]
  | succ n ih =>
    intro k Z hk
    have hlt : (k : Int) < 8 := by omega
    obtain ⟨Z', e, f, g⟩ := ih (k + 1) (pm_up Z (a + 2) k 0) (by omega)
    rw [show (((k + 1 : Nat)) : Int) = (k : Int) + 1 by omega] at e
    refine ⟨Z', ?_, fun b hb => by rw [f b hb, pm_up_row hb], fun q hq => ?_⟩
    · rw [q_39_71]
      simp (disch := first | assumption | decide +kernel | omega | (split <;> omega)) only [q_39_0, q_39_1, q_39_2, q_39_5, q_39_6, q_39_7, q_39_10, q_39_11, q_39_12, q_39_13, q_39_16, q_39_17, q_39_20, q_39_21, q_39_24, q_39_25, q_39_26, q_39_27, q_39_30, q_39_33, q_39_34, q_39_35, q_39_36, q_39_39, q_39_42, q_39_43, q_39_44, q_39_47, q_39_48, q_39_49, q_39_52, q_39_53, q_39_55, q_39_58, q_39_59, q_39_60, q_39_63, q_39_64, q_39_65, q_39_68, q_39_69, q_39_73, q_39_75, q_39_78, q_39_79, q_39_82, q_39_84, q_39_85, q_39_86, q_39_89, q_39_93, q_39_95, q_39_97, q_39_99, q_39_102, q_39_103, q_39_106, q_39_108, q_39_109, q_39_110, q_39_111, q_39_114, q_39_116, q_39_117, q_39_118, q_39_121, q_39_124, pm_some, Option.toList_some, Option.toList_none, List.cons_append, List.nil_append, pm_i0, pm_i1, Nat.reduceAdd, Nat.reduceMul, Int.toNat_natCast, Int.toNat_zero, not_true_eq_false, not_false_eq_true, and_self, true_and, and_true, ↓reduceIte, Int.reduceEq, Int.reduceLT, Int.reduceLE, Int.reduceNeg, Bool.false_eq_true, hlt]
      exact e
    · rw [g q hq]
      by_cases c : q = k
      · subst c
        rw [if_neg (by omega), if_pos (Nat.le_refl _), pm_up_same]
      · rw [pm_up_ne (by omega)]
        by_cases c2 : k ≤ q
        · rw [if_pos (by omega), if_pos c2]
        · rw [if_neg (by omega), if_neg c2]
theorem l_mb2 {a : Nat} (k1 : pm_kd a = 4) (k2 : pm_kd (a + 3) = 11) (k3 : pm_ln (a + 3) = 7) (k4 : pm_kd (a + 4) = 11) (k5 : pm_ln (a + 4) = 7) (x1 x2 x3 x4 : Int) (L : Nat) (W : Nat → Nat) : ∀ (n k : Nat) (Z : Nat → Nat → Int), k + n = 7 → ∃ Z', pm_D (39, 95, [.ref a, .int (pm_J x1), .int (pm_J x2), .int (pm_J x3), .int (pm_J x4), .int (pm_J (k : Int))], [], pm_hp L Z W) = some (none, pm_hp L Z' W) ∧ (∀ b, b ≠ a + 3 → b ≠ a + 4 → Z' b = Z b) ∧ ∀ q, q < 7 → Z' (a + 3) q = (if k ≤ q then 0 else Z (a + 3) q) ∧ Z' (a + 4) q = (if k ≤ q then 0 else Z (a + 4) q) := by
  intro n
  induction n with
  | zero =>
    intro k Z hk
    obtain rfl : k = 7 := by omega
    refine ⟨Z, ?_, fun _ _ _ => rfl, fun q hq => by rw [if_neg (by omega), if_neg (by omega)]; exact ⟨rfl, rfl⟩⟩
    rw [q_39_95]
    simp (disch := first | assumption | decide +kernel | omega | (split <;> omega)) only [q_39_0, q_39_1, q_39_2, q_39_5, q_39_6, q_39_7, q_39_10, q_39_11, q_39_12, q_39_13, q_39_16, q_39_17, q_39_20, q_39_21, q_39_24, q_39_25, q_39_26, q_39_27, q_39_30, q_39_33, q_39_34, q_39_35, q_39_36, q_39_39, q_39_42, q_39_43, q_39_44, q_39_47, q_39_48, q_39_49, q_39_52, q_39_53, q_39_55, q_39_58, q_39_59, q_39_60, q_39_63, q_39_64, q_39_65, q_39_68, q_39_69, q_39_73, q_39_75, q_39_78, q_39_79, q_39_82, q_39_84, q_39_85, q_39_86, q_39_89, q_39_92, q_39_93, q_39_97, q_39_99, q_39_102, q_39_103, q_39_106, q_39_108, q_39_109, q_39_110, q_39_111, q_39_114, q_39_116, q_39_117, q_39_118, q_39_121, q_39_124, pm_some, Option.toList_some, Option.toList_none, List.cons_append, List.nil_append, pm_i0, pm_i1, Nat.reduceAdd, Nat.reduceMul, Int.toNat_natCast, Int.toNat_zero, not_true_eq_false, not_false_eq_true, and_self, true_and, and_true, ↓reduceIte, Int.reduceEq, Int.reduceLT, Int.reduceLE, Int.reduceNeg, Bool.false_eq_true, Int.lt_irrefl, Int.cast_ofNat_Int]
  | succ n ih =>
    intro k Z hk
    have hlt : (k : Int) < 7 := by omega
    obtain ⟨Z', e, f, g⟩ := ih (k + 1) (pm_up (pm_up Z (a + 3) k 0) (a + 4) k 0) (by omega)
    rw [show (((k + 1 : Nat)) : Int) = (k : Int) + 1 by omega] at e
    refine ⟨Z', ?_, fun b h1 h2 => by rw [f b h1 h2, pm_up_row h2, pm_up_row h1], fun q hq => ?_⟩
    · rw [q_39_95]
      simp (disch := first | assumption | decide +kernel | omega | (split <;> omega)) only [q_39_0, q_39_1, q_39_2, q_39_5, q_39_6, q_39_7, q_39_10, q_39_11, q_39_12, q_39_13, q_39_16, q_39_17, q_39_20, q_39_21, q_39_24, q_39_25, q_39_26, q_39_27, q_39_30, q_39_33, q_39_34, q_39_35, q_39_36, q_39_39, q_39_42, q_39_43, q_39_44, q_39_47, q_39_48, q_39_49, q_39_52, q_39_53, q_39_55, q_39_58, q_39_59, q_39_60, q_39_63, q_39_64, q_39_65, q_39_68, q_39_69, q_39_73, q_39_75, q_39_78, q_39_79, q_39_82, q_39_84, q_39_85, q_39_86, q_39_89, q_39_92, q_39_93, q_39_97, q_39_99, q_39_102, q_39_103, q_39_106, q_39_108, q_39_109, q_39_110, q_39_111, q_39_114, q_39_116, q_39_117, q_39_118, q_39_121, q_39_124, pm_some, Option.toList_some, Option.toList_none, List.cons_append, List.nil_append, pm_i0, pm_i1, Nat.reduceAdd, Nat.reduceMul, Int.toNat_natCast, Int.toNat_zero, not_true_eq_false, not_false_eq_true, and_self, true_and, and_true, ↓reduceIte, Int.reduceEq, Int.reduceLT, Int.reduceLE, Int.reduceNeg, Bool.false_eq_true, hlt]
      exact e
    · rw [(g q hq).1, (g q hq).2]
      by_cases c : q = k
      · subst c
        rw [if_neg (by omega), if_pos (Nat.le_refl _), if_neg (by omega), if_pos (Nat.le_refl _), pm_up_row (by omega), pm_up_same, pm_up_same]
        exact ⟨rfl, rfl⟩
      · rw [pm_up_row (by omega), pm_up_ne (by omega), pm_up_ne (by omega), pm_up_row (by omega)]
        by_cases c2 : k ≤ q
        · rw [if_pos (by omega), if_pos c2, if_pos (by omega), if_pos c2]
          exact ⟨rfl, rfl⟩
        · rw [if_neg (by omega), if_neg c2, if_neg (by omega), if_neg c2]
          exact ⟨rfl, rfl⟩
theorem c_beginM {m a : Nat} (hm : m < 10) (ea : a = 46 + 9 + 6 + 5 * m) (f t p tm : Int) (L : Nat) (Z : Nat → Nat → Int) (W : Nat → Nat) (hf : pm_r f) (ht : pm_r t) : ∃ Z', pm_D (39, 0, [.ref a, .int (pm_J f), .int (pm_J t), .int (pm_J p), .int (pm_J tm), .null], [], pm_hp L Z W) = some (none, pm_hp L Z' W) ∧ (∀ b, b ≠ a → b ≠ a + 2 → b ≠ a + 3 → b ≠ a + 4 → Z' b = Z b) ∧ (Z' a 0 = f ∧ Z' a 1 = t ∧ Z' a 2 = (if f < t then 1 else 0) ∧ Z' a 3 = (if f < t then f else t) ∧ Z' a 4 = (if f < t then t else f) ∧ Z' a 5 = p ∧ Z' a 7 = 0 ∧ Z' a 8 = tm ∧ Z' a 9 = 0 ∧ Z' a 10 = 0) ∧ (∀ q, q < 8 → Z' (a + 2) q = 0) ∧ (∀ q, q < 7 → Z' (a + 3) q = 0 ∧ Z' (a + 4) q = 0) := by
  obtain ⟨m1, m2, m3, m4, m5, m6, m7, m8, m9⟩ := pm_kdM (o := 46) (n := m) (Or.inl rfl) hm
  rw [← ea] at m1 m2 m3 m4 m5 m6 m7 m8 m9
  obtain ⟨U, hU⟩ : ∃ U, U = pm_up (pm_up (pm_up (pm_up (pm_up (pm_up (pm_up (pm_up (pm_up (pm_up Z a 0 f) a 1 t) a 2 (if f < t then 1 else 0)) a 3 (if f < t then f else t)) a 4 (if f < t then t else f)) a 5 p) a 7 0) a 8 tm) a 9 0) a 10 0 := ⟨_, rfl⟩
  have u1 : ∀ b, b ≠ a → U b = Z b := fun b hb => by rw [hU]; simp (disch := exact hb) only [pm_up_row]
  have u2 : U a 0 = f ∧ U a 1 = t ∧ U a 2 = (if f < t then 1 else 0) ∧ U a 3 = (if f < t then f else t) ∧ U a 4 = (if f < t then t else f) ∧ U a 5 = p ∧ U a 7 = 0 ∧ U a 8 = tm ∧ U a 9 = 0 ∧ U a 10 = 0 := by
    rw [hU]
    simp [pm_up]
  obtain ⟨Z1, e1, f1, g1⟩ := l_mb1 m1 m4 m5 f t p tm L W 8 0 U rfl
  obtain ⟨Z2, e2, f2, g2⟩ := l_mb2 m1 m6 m7 m8 m9 f t p tm L W 7 0 Z1 rfl
  rw [show (((0 : Nat)) : Int) = 0 from rfl] at e1 e2
  refine ⟨Z2, ?_, fun b h1 h2 h3 h4 => by rw [f2 b h3 h4, f1 b h2, u1 b h1], by rw [f2 a (by omega) (by omega), f1 a (by omega)]; exact u2, fun q hq => by rw [f2 _ (by omega) (by omega), g1 q hq, if_pos (Nat.zero_le _)], fun q hq => by rw [(g2 q hq).1, (g2 q hq).2, if_pos (Nat.zero_le _), if_pos (Nat.zero_le _)]; exact ⟨rfl, rfl⟩⟩
  have h92 : pm_D (39, 92, [.ref a, .int (pm_J f), .int (pm_J t), .int (pm_J p), .int (pm_J tm), .int (pm_J 8)], [], pm_hp L Z1 W) = some (none, pm_hp L Z2 W) := by
    simp (disch := first | assumption | decide +kernel | omega | (split <;> omega)) only [q_39_0, q_39_1, q_39_2, q_39_5, q_39_6, q_39_7, q_39_10, q_39_11, q_39_12, q_39_13, q_39_16, q_39_17, q_39_20, q_39_21, q_39_24, q_39_25, q_39_26, q_39_27, q_39_30, q_39_33, q_39_34, q_39_35, q_39_36, q_39_39, q_39_42, q_39_43, q_39_44, q_39_47, q_39_48, q_39_49, q_39_52, q_39_53, q_39_55, q_39_58, q_39_59, q_39_60, q_39_63, q_39_64, q_39_65, q_39_68, q_39_69, q_39_73, q_39_75, q_39_78, q_39_79, q_39_82, q_39_84, q_39_85, q_39_86, q_39_89, q_39_92, q_39_93, q_39_97, q_39_99, q_39_102, q_39_103, q_39_106, q_39_108, q_39_109, q_39_110, q_39_111, q_39_114, q_39_116, q_39_117, q_39_118, q_39_121, q_39_124, pm_some, Option.toList_some, Option.toList_none, List.cons_append, List.nil_append, pm_i0, pm_i1, Nat.reduceAdd, Nat.reduceMul, Int.toNat_natCast, Int.toNat_zero]
    exact e2
  by_cases c : f < t
  · have c' : ¬ t < f := by omega
    simp only [if_pos c] at hU
    rw [hU] at e1
    simp (disch := first | assumption | decide +kernel | omega | (split <;> omega)) only [q_39_0, q_39_1, q_39_2, q_39_5, q_39_6, q_39_7, q_39_10, q_39_11, q_39_12, q_39_13, q_39_16, q_39_17, q_39_20, q_39_21, q_39_24, q_39_25, q_39_26, q_39_27, q_39_30, q_39_33, q_39_34, q_39_35, q_39_36, q_39_39, q_39_42, q_39_43, q_39_44, q_39_47, q_39_48, q_39_49, q_39_52, q_39_53, q_39_55, q_39_58, q_39_59, q_39_60, q_39_63, q_39_64, q_39_65, q_39_68, q_39_69, q_39_73, q_39_75, q_39_78, q_39_79, q_39_82, q_39_84, q_39_85, q_39_86, q_39_89, q_39_93, q_39_97, q_39_99, q_39_102, q_39_103, q_39_106, q_39_108, q_39_109, q_39_110, q_39_111, q_39_114, q_39_116, q_39_117, q_39_118, q_39_121, q_39_124, pm_some, Option.toList_some, Option.toList_none, List.cons_append, List.nil_append, pm_i0, pm_i1, Nat.reduceAdd, Nat.reduceMul, Int.toNat_natCast, Int.toNat_zero, not_true_eq_false, not_false_eq_true, and_self, true_and, and_true, ↓reduceIte, Int.reduceEq, Int.reduceLT, Int.reduceLE, Int.reduceNeg, Bool.false_eq_true, c, c']
    rw [e1]
    exact h92
  · simp only [if_neg c] at hU
    rw [hU] at e1
    by_cases c2 : t < f
    · simp (disch := first | assumption | decide +kernel | omega | (split <;> omega)) only [q_39_0, q_39_1, q_39_2, q_39_5, q_39_6, q_39_7, q_39_10, q_39_11, q_39_12, q_39_13, q_39_16, q_39_17, q_39_20, q_39_21, q_39_24, q_39_25, q_39_26, q_39_27, q_39_30, q_39_33, q_39_34, q_39_35, q_39_36, q_39_39, q_39_42, q_39_43, q_39_44, q_39_47, q_39_48, q_39_49, q_39_52, q_39_53, q_39_55, q_39_58, q_39_59, q_39_60, q_39_63, q_39_64, q_39_65, q_39_68, q_39_69, q_39_73, q_39_75, q_39_78, q_39_79, q_39_82, q_39_84, q_39_85, q_39_86, q_39_89, q_39_93, q_39_97, q_39_99, q_39_102, q_39_103, q_39_106, q_39_108, q_39_109, q_39_110, q_39_111, q_39_114, q_39_116, q_39_117, q_39_118, q_39_121, q_39_124, pm_some, Option.toList_some, Option.toList_none, List.cons_append, List.nil_append, pm_i0, pm_i1, Nat.reduceAdd, Nat.reduceMul, Int.toNat_natCast, Int.toNat_zero, not_true_eq_false, not_false_eq_true, and_self, true_and, and_true, ↓reduceIte, Int.reduceEq, Int.reduceLT, Int.reduceLE, Int.reduceNeg, Bool.false_eq_true, c, c2]
      rw [e1]
      exact h92
    · obtain rfl : f = t := by omega
      simp (disch := first | assumption | decide +kernel | omega | (split <;> omega)) only [q_39_0, q_39_1, q_39_2, q_39_5, q_39_6, q_39_7, q_39_10, q_39_11, q_39_12, q_39_13, q_39_16, q_39_17, q_39_20, q_39_21, q_39_24, q_39_25, q_39_26, q_39_27, q_39_30, q_39_33, q_39_34, q_39_35, q_39_36, q_39_39, q_39_42, q_39_43, q_39_44, q_39_47, q_39_48, q_39_49, q_39_52, q_39_53, q_39_55, q_39_58, q_39_59, q_39_60, q_39_63, q_39_64, q_39_65, q_39_68, q_39_69, q_39_73, q_39_75, q_39_78, q_39_79, q_39_82, q_39_84, q_39_85, q_39_86, q_39_89, q_39_93, q_39_97, q_39_99, q_39_102, q_39_103, q_39_106, q_39_108, q_39_109, q_39_110, q_39_111, q_39_114, q_39_116, q_39_117, q_39_118, q_39_121, q_39_124, pm_some, Option.toList_some, Option.toList_none, List.cons_append, List.nil_append, pm_i0, pm_i1, Nat.reduceAdd, Nat.reduceMul, Int.toNat_natCast, Int.toNat_zero, not_true_eq_false, not_false_eq_true, and_self, true_and, and_true, ↓reduceIte, Int.reduceEq, Int.reduceLT, Int.reduceLE, Int.reduceNeg, Bool.false_eq_true, Int.lt_irrefl]
      rw [e1]
      exact h92
theorem c_fillM {m a : Nat} (hm : m < 10) (ea : a = 46 + 9 + 6 + 5 * m) (n : Nat) (f : Int) (L : Nat) (Z : Nat → Nat → Int) (W : Nat → Nat) (hn : n ≤ 30) (hf0 : 0 ≤ f) (hf : f < 8) (hz : Z a 0 = f) : pm_D (40, 0, [.ref a, .ref 45, .int (pm_J (n : Int))], [], pm_hp L Z W) = some (none, pm_hp L (pm_up (pm_cpz (pm_up Z a 6 (n : Int)) 45 (a + 1) 0 (f * 30).toNat n) (a + 2) f.toNat (n : Int)) W) := by
  obtain ⟨m1, m2, m3, m4, m5, m6, m7, m8, m9⟩ := pm_kdM (o := 46) (n := m) (Or.inl rfl) hm
  rw [← ea] at m1 m2 m3 m4 m5 m6 m7 m8 m9
  have k45 : pm_kd 45 = 11 := by decide +kernel
  have l45 : pm_ln 45 = 30 := by decide +kernel
  have z0 : pm_up Z a 6 (n : Int) a 0 = f := by rw [pm_up_ne (by omega)]; exact hz
  have z6 : pm_up Z a 6 (n : Int) a 6 = (n : Int) := pm_up_same _ _ _ _
  have y0 : pm_cpz (pm_up Z a 6 (n : Int)) 45 (a + 1) 0 (f * 30).toNat n a 0 = f := by rw [pm_cpz_row (by omega)]; exact z0
  have y6 : pm_cpz (pm_up Z a 6 (n : Int)) 45 (a + 1) 0 (f * 30).toNat n a 6 = (n : Int) := by rw [pm_cpz_row (by omega)]; exact z6
  have h5 : f * 30 + (n : Int) ≤ 240 := by omega
  have hn' : ¬ (30 : Int) < (n : Int) := by omega
  have h4 : (0 : Int) + (n : Int) ≤ ((30 : Nat) : Int) := by omega
  have nn : 0 ≤ (n : Int) := by omega
  have nr : pm_r (n : Int) := by omega
  have h30 : 0 ≤ f * 30 := by omega
  simp (disch := first | assumption | decide +kernel | omega | (split <;> omega)) only [q_40_0, q_40_1, q_40_2, q_40_4, q_40_7, q_40_10, q_40_11, q_40_12, q_40_13, q_40_16, q_40_17, q_40_20, q_40_22, q_40_23, q_40_24, q_40_30, q_40_31, q_40_34, q_40_35, q_40_38, q_40_39, q_40_42, q_40_43, (q_40_27 (ns := 30)), pm_some, Option.toList_some, Option.toList_none, List.cons_append, List.nil_append, pm_i0, pm_i1, Nat.reduceAdd, Nat.reduceMul, Int.toNat_natCast, Int.toNat_zero, not_true_eq_false, not_false_eq_true, and_self, true_and, and_true, ↓reduceIte, Int.reduceEq, Int.reduceLT, Int.reduceLE, Int.reduceNeg, Bool.false_eq_true, hn', z0, z6, y0, y6]
theorem l_R_app {f : Nat} {m : Nat} (hf : f < 8) (hm : m < 10) (x1 x2 x3 : Int) {c : Nat} (hc : c ≤ 30) (L : Nat) (W : Nat → Nat) : ∀ (n k : Nat) (Z : Nat → Nat → Int), Z 190 20 = (c : Int) → Z 191 (31 + 8 * m + f) = (k : Int) → k + n = c → ∃ Z', pm_D (131, 129, [.ref 190, .int (pm_J (f : Int)), .int (pm_J x1), .int (pm_J x2), .int (pm_J x3), .int (pm_J (m : Int)), .int (pm_J (k : Int))], [], pm_hp L Z W) = some (some (.int (pm_J (m : Int))), pm_hp L Z' W) ∧ (∀ a, a ≠ 191 → Z' a = Z a) ∧ Z' 191 (31 + 8 * m + f) = (c : Int) ∧ (∀ q, k ≤ q → q < c → Z' 191 (311 + 30 * (8 * m + f) + q) = Z 204 q) ∧ (∀ q, q ≠ 31 + 8 * m + f → ¬ (311 + 30 * (8 * m + f) + k ≤ q ∧ q < 311 + 30 * (8 * m + f) + c) → Z' 191 q = Z 191 q) := by
  intro n
  induction n with
  | zero =>
    intro k Z h20 hl hk
    obtain rfl : k = c := by omega
    have hr : pm_r (k : Int) := by omega
    refine ⟨Z, ?_, fun _ _ => rfl, hl, fun q h1 h2 => by omega, fun _ _ _ => rfl⟩
    rw [q_131_129]
    simp (disch := first | assumption | decide +kernel | omega | (split <;> omega)) only [q_131_0, q_131_1, q_131_2, q_131_5, q_131_8, q_131_9, q_131_10, q_131_13, q_131_16, q_131_17, q_131_18, q_131_19, q_131_20, q_131_21, q_131_24, q_131_27, q_131_28, q_131_29, q_131_32, q_131_34, q_131_35, q_131_36, q_131_39, q_131_41, q_131_43, q_131_46, q_131_48, q_131_50, q_131_51, q_131_52, q_131_53, q_131_56, q_131_58, q_131_61, q_131_62, q_131_65, q_131_67, q_131_70, q_131_72, q_131_73, q_131_74, q_131_77, q_131_79, q_131_80, q_131_81, q_131_84, q_131_85, q_131_86, q_131_89, q_131_90, q_131_93, q_131_95, q_131_96, q_131_97, q_131_98, q_131_101, q_131_103, q_131_104, q_131_105, q_131_106, q_131_109, q_131_111, q_131_112, q_131_113, q_131_114, q_131_117, q_131_119, q_131_120, q_131_123, q_131_124, q_131_125, q_131_126, q_131_127, q_131_131, q_131_132, q_131_135, q_131_138, q_131_139, q_131_141, q_131_142, q_131_143, q_131_146, q_131_148, q_131_149, q_131_152, q_131_155, q_131_158, q_131_160, pm_some, Option.toList_some, Option.toList_none, List.cons_append, List.nil_append, pm_i0, pm_i1, Nat.reduceAdd, Nat.reduceMul, Int.toNat_natCast, Int.toNat_zero, not_true_eq_false, not_false_eq_true, and_self, true_and, and_true, ↓reduceIte, Int.reduceEq, Int.reduceLT, Int.reduceLE, Int.reduceNeg, Bool.false_eq_true, h20, Int.lt_irrefl]
  | succ n ih =>
    intro k Z h20 hl hk
    have hlt : (k : Int) < (c : Int) := by omega
    have hap := c_R_append m f (k : Int) (Z 204 k) L Z W hm hf hl (by omega) (by omega)
    rw [Int.toNat_natCast] at hap
    have k200 : (k : Int) < 200 := by omega
    obtain ⟨U, hU⟩ : ∃ U, U = pm_up (pm_up Z 191 (311 + 30 * (8 * m + f) + k) (Z 204 k)) 191 (31 + 8 * m + f) ((k : Int) + 1) := ⟨_, rfl⟩
    rw [← hU] at hap
    have u1 : ∀ a, a ≠ 191 → U a = Z a := fun a ha => by rw [hU, pm_up_row ha, pm_up_row ha]
    have u2 : U 191 (31 + 8 * m + f) = ((k + 1 : Nat) : Int) := by rw [hU, pm_up_same]; omega
    have u3 : U 191 (311 + 30 * (8 * m + f) + k) = Z 204 k := by rw [hU, pm_up_ne (by omega), pm_up_same]
    have u4 : ∀ q, q ≠ 31 + 8 * m + f → q ≠ 311 + 30 * (8 * m + f) + k → U 191 q = Z 191 q := fun q h1 h2 => by rw [hU, pm_up_ne (by omega), pm_up_ne (by omega)]
    obtain ⟨Z', e, f', g1, g2, g3⟩ := ih (k + 1) U (by rw [u1 190 (by omega)]; exact h20) u2 (by omega)
    rw [show (((k + 1 : Nat)) : Int) = (k : Int) + 1 by omega] at e
    refine ⟨Z', ?_, fun a ha => by rw [f' a ha, u1 a ha], g1, fun q h1 h2 => ?_, fun q h1 h2 => by rw [g3 q h1 (by omega), u4 q h1 (by omega)]⟩
    · rw [q_131_129]
      simp (disch := first | assumption | decide +kernel | omega | (split <;> omega)) only [q_131_0, q_131_1, q_131_2, q_131_5, q_131_8, q_131_9, q_131_10, q_131_13, q_131_16, q_131_17, q_131_18, q_131_19, q_131_20, q_131_21, q_131_24, q_131_27, q_131_28, q_131_29, q_131_32, q_131_34, q_131_35, q_131_36, q_131_39, q_131_41, q_131_43, q_131_46, q_131_48, q_131_50, q_131_51, q_131_52, q_131_53, q_131_56, q_131_58, q_131_61, q_131_62, q_131_65, q_131_67, q_131_70, q_131_72, q_131_73, q_131_74, q_131_77, q_131_79, q_131_80, q_131_81, q_131_84, q_131_85, q_131_86, q_131_89, q_131_90, q_131_93, q_131_95, q_131_96, q_131_97, q_131_98, q_131_101, q_131_103, q_131_104, q_131_105, q_131_106, q_131_109, q_131_111, q_131_112, q_131_113, q_131_114, q_131_117, q_131_119, q_131_120, q_131_123, q_131_124, q_131_125, q_131_126, q_131_127, q_131_131, q_131_132, q_131_135, q_131_138, q_131_139, q_131_141, q_131_142, q_131_143, q_131_146, q_131_148, q_131_149, q_131_152, q_131_155, q_131_158, q_131_160, pm_some, Option.toList_some, Option.toList_none, List.cons_append, List.nil_append, pm_i0, pm_i1, Nat.reduceAdd, Nat.reduceMul, Int.toNat_natCast, Int.toNat_zero, not_true_eq_false, not_false_eq_true, and_self, true_and, and_true, ↓reduceIte, Int.reduceEq, Int.reduceLT, Int.reduceLE, Int.reduceNeg, Bool.false_eq_true, h20, hlt, hap]
      exact e
    · by_cases c' : q = k
      · subst c'
        rw [g3 _ (by omega) (by omega), u3]
      · rw [g2 q (by omega) h2, u1 204 (by omega)]
theorem c_startMessage {m : Nat} (f t p : Int) (n : Nat) (L : Nat) (Z : Nat → Nat → Int) (W : Nat → Nat) (hm4 : Z 46 4 = (m : Int)) (hm : m < 10) (hf0 : 0 ≤ f) (hf : f < 8) (ht0 : 0 ≤ t) (ht : t < 8) (hn : n ≤ 30) : ∃ Z', pm_D (22, 0, [.ref 46, .int (pm_J f), .int (pm_J t), .int (pm_J p), .ref 45, .int (pm_J (n : Int))], [], pm_hp L Z W) = some (none, pm_hp L Z' W) ∧ (∀ b, b ≠ 46 → ¬ (61 + 5 * m ≤ b ∧ b < 66 + 5 * m) → Z' b = Z b) ∧ (∀ q, q ≠ 4 → q ≠ 11 → Z' 46 q = Z 46 q) ∧ Z' 46 4 = (m : Int) + 1 ∧ Z' 46 11 = 0 ∧ (Z' (61 + 5 * m) 0 = f ∧ Z' (61 + 5 * m) 1 = t ∧ Z' (61 + 5 * m) 2 = (if f < t then 1 else 0) ∧ Z' (61 + 5 * m) 3 = (if f < t then f else t) ∧ Z' (61 + 5 * m) 4 = (if f < t then t else f) ∧ Z' (61 + 5 * m) 5 = p ∧ Z' (61 + 5 * m) 6 = (n : Int) ∧ Z' (61 + 5 * m) 7 = 0 ∧ Z' (61 + 5 * m) 8 = Z 46 3 ∧ Z' (61 + 5 * m) 9 = 0 ∧ Z' (61 + 5 * m) 10 = 0) ∧ (∀ k, k < n → Z' (61 + 5 * m + 1) (f.toNat * 30 + k) = Z 45 k) ∧ (∀ q, q < 8 → Z' (61 + 5 * m + 2) q = if q = f.toNat then (n : Int) else 0) ∧ (∀ q, q < 7 → Z' (61 + 5 * m + 3) q = 0 ∧ Z' (61 + 5 * m + 4) q = 0) := by
  obtain ⟨m1, m2, m3, m4, m5, m6, m7, m8, m9⟩ := pm_kdM (o := 46) (n := m) (Or.inl rfl) hm
  obtain ⟨k1, k2, k3, k4, k5, -⟩ := pm_kdL (o := 46) (Or.inl rfl)
  obtain ⟨Z1, e1, f1, ⟨b0, b1, b2, b3, b4, b5, b7, b8, b9, b10⟩, b11, b12⟩ := c_beginM (m := m) hm rfl f t p (Z 46 3) L Z W (by omega) (by omega)
  have hfi := c_fillM (m := m) hm rfl n f L Z1 W hn hf0 hf b0
  rw [show 46 + 9 + 6 + 5 * m = 61 + 5 * m by omega] at e1 f1 b0 b1 b2 b3 b4 b5 b7 b8 b9 b10 b11 b12 hfi m1
  obtain ⟨Z2, hZ2⟩ : ∃ U, U = pm_up (pm_cpz (pm_up Z1 (61 + 5 * m) 6 (n : Int)) 45 (61 + 5 * m + 1) 0 (f * 30).toNat n) (61 + 5 * m + 2) f.toNat (n : Int) := ⟨_, rfl⟩
  rw [← hZ2] at hfi
  have u1 : ∀ b, b ≠ 61 + 5 * m → b ≠ 61 + 5 * m + 1 → b ≠ 61 + 5 * m + 2 → Z2 b = Z1 b := fun b h1 h2 h3 => by rw [hZ2, pm_up_row h3, pm_cpz_row h2, pm_up_row h1]
  have ua : ∀ q, q ≠ 6 → Z2 (61 + 5 * m) q = Z1 (61 + 5 * m) q := fun q hq => by rw [hZ2, pm_up_row (by omega), pm_cpz_row (by omega), pm_up_ne (by omega)]
  have ua6 : Z2 (61 + 5 * m) 6 = (n : Int) := by rw [hZ2, pm_up_row (by omega), pm_cpz_row (by omega), pm_up_same]
  have uc : ∀ k, k < n → Z2 (61 + 5 * m + 1) (f.toNat * 30 + k) = Z 45 k := fun k hk => by
    rw [hZ2, pm_up_row (by omega)]
    unfold pm_cpz
    rw [if_pos ⟨rfl, by omega, by omega⟩, show 0 + (f.toNat * 30 + k - (f * 30).toNat) = k by omega, pm_up_row (by omega), f1 45 (by omega) (by omega) (by omega) (by omega)]
  have ul : ∀ q, q < 8 → Z2 (61 + 5 * m + 2) q = if q = f.toNat then (n : Int) else 0 := fun q hq => by
    rw [hZ2]
    by_cases c : q = f.toNat
    · subst c
      rw [if_pos rfl, pm_up_same]
    · rw [if_neg c, pm_up_ne (by omega), pm_cpz_row (by omega), pm_up_row (by omega), b11 q hq]
  have z46 : Z1 46 = Z 46 := f1 46 (by omega) (by omega) (by omega) (by omega)
  have z46' : Z2 46 = Z 46 := by rw [u1 46 (by omega) (by omega) (by omega)]; exact z46
  have z4 : Z1 46 4 = (m : Int) := by rw [z46]; exact hm4
  have z4' : Z2 46 4 = (m : Int) := by rw [z46']; exact hm4
  have hlt : (m : Int) < 10 := by omega
  refine ⟨pm_up (pm_up Z2 46 4 ((m : Int) + 1)) 46 11 0, ?_, fun b h1 h2 => by rw [pm_up_row h1, pm_up_row h1, u1 b (by omega) (by omega) (by omega), f1 b (by omega) (by omega) (by omega) (by omega)], fun q h1 h2 => by rw [pm_up_ne (by omega), pm_up_ne (by omega), z46'], by rw [pm_up_ne (by omega), pm_up_same], pm_up_same _ _ _ _, ?_, fun k hk => by rw [pm_up_row (by omega), pm_up_row (by omega)]; exact uc k hk, fun q hq => by rw [pm_up_row (by omega), pm_up_row (by omega)]; exact ul q hq, fun q hq => by rw [pm_up_row (by omega), pm_up_row (by omega), u1 _ (by omega) (by omega) (by omega), pm_up_row (by omega), pm_up_row (by omega), u1 _ (by omega) (by omega) (by omega)]; exact b12 q hq⟩
  · simp (disch := first | assumption | decide +kernel | omega | (split <;> omega)) only [q_22_0, q_22_1, q_22_4, q_22_6, q_22_9, q_22_10, q_22_13, q_22_14, q_22_17, q_22_18, q_22_19, q_22_20, q_22_21, q_22_22, q_22_25, q_22_28, q_22_29, q_22_32, q_22_33, q_22_36, q_22_37, q_22_39, q_22_41, q_22_44, q_22_45, q_22_46, q_22_49, q_22_50, q_22_51, q_22_54, q_22_55, q_22_58, pm_some, Option.toList_some, Option.toList_none, List.cons_append, List.nil_append, pm_i0, pm_i1, Nat.reduceAdd, Nat.reduceMul, Int.toNat_natCast, Int.toNat_zero, not_true_eq_false, not_false_eq_true, and_self, true_and, and_true, ↓reduceIte, Int.reduceEq, Int.reduceLT, Int.reduceLE, Int.reduceNeg, Bool.false_eq_true, hm4, hlt, e1, z4, hfi, z4', c_forgetTasks]
  · rw [pm_up_row (show 61 + 5 * m ≠ 46 by omega), pm_up_row (show 61 + 5 * m ≠ 46 by omega), ua 0 (by omega), ua 1 (by omega), ua 2 (by omega), ua 3 (by omega), ua 4 (by omega), ua 5 (by omega), ua6, ua 7 (by omega), ua 8 (by omega), ua 9 (by omega), ua 10 (by omega)]
    exact ⟨b0, b1, b2, b3, b4, b5, rfl, b7, b8, b9, b10⟩
theorem op_send : Op_send := by
  intro T L Z W hI hT0 hT a b c ha hb hc
  obtain ⟨⟨⟨a1, a2, a3, a4, a5, a6, a7, a8, a9, a10, a11⟩, ⟨⟨w1, w2, w3, w4, w5, w6⟩, ⟨w7, w8, w9⟩, w10⟩, ⟨⟨f1, f2, f3⟩, f4⟩, hms, hun, hco, hsh, htk⟩, htx, hbk, hon⟩ := id hI
  have a8' : 0 ≤ Z 46 4 := by omega
  have a9' : Z 46 4 ≤ 10 := by omega
  have a2' : 0 ≤ Z 46 2 := by omega
  have a3' : Z 46 2 ≤ 8 := by omega
  have a2'' : 0 ≤ Z 190 0 := by omega
  by_cases hm : 0 ≤ a ∧ a < Z 190 0
  · by_cases hn : 0 ≤ b ∧ b < Z 190 0
    · by_cases hp : 0 ≤ c ∧ c ≤ 2
      · by_cases hne : a = b
        · subst hne
          refine Op.same hI (-3) (by decide) ?_ ?_
          · simp (disch := first | assumption | decide +kernel | omega | (split <;> omega)) only [q_86_0, q_86_1, q_86_4, q_86_5, q_86_8, q_86_11, q_86_12, q_86_15, q_86_16, q_86_19, q_86_22, q_86_23, q_86_24, q_86_25, q_86_28, q_86_31, q_86_32, q_86_33, q_86_36, q_86_38, q_86_39, q_86_40, q_86_43, q_86_46, q_86_48, q_86_50, q_86_51, q_86_54, q_86_56, q_86_58, q_86_59, q_86_60, q_86_61, q_86_64, q_86_65, q_86_68, q_86_69, q_86_72, q_86_75, q_86_77, q_86_78, q_86_81, q_86_84, q_86_86, q_86_89, q_86_91, q_86_93, q_86_96, q_86_98, q_86_99, q_86_100, q_86_103, q_86_104, q_86_105, q_86_106, q_86_107, q_86_110, q_86_112, q_86_115, q_86_116, q_86_119, q_86_122, q_86_123, q_86_124, c_hasTower, c_isPriority, pm_some, Option.toList_some, Option.toList_none, List.cons_append, List.nil_append, pm_i0, pm_i1, Nat.reduceAdd, Nat.reduceMul, Int.toNat_natCast, Int.toNat_zero, a1, hm, hp, not_true_eq_false, not_false_eq_true, and_self, true_and, and_true, ↓reduceIte, Int.reduceEq, Int.reduceLT, Int.reduceLE, Int.reduceNeg, Bool.false_eq_true]
          · simp (disch := first | assumption | decide +kernel | omega | (split <;> omega)) only [q_131_0, q_131_1, q_131_2, q_131_5, q_131_8, q_131_9, q_131_10, q_131_13, q_131_16, q_131_17, q_131_18, q_131_19, q_131_20, q_131_21, q_131_24, q_131_27, q_131_28, q_131_29, q_131_32, q_131_34, q_131_35, q_131_36, q_131_39, q_131_41, q_131_43, q_131_46, q_131_48, q_131_50, q_131_51, q_131_52, q_131_53, q_131_56, q_131_58, q_131_61, q_131_62, q_131_65, q_131_67, q_131_70, q_131_72, q_131_73, q_131_74, q_131_77, q_131_79, q_131_80, q_131_81, q_131_84, q_131_85, q_131_86, q_131_89, q_131_90, q_131_93, q_131_95, q_131_96, q_131_97, q_131_98, q_131_101, q_131_103, q_131_104, q_131_105, q_131_106, q_131_109, q_131_111, q_131_112, q_131_113, q_131_114, q_131_117, q_131_119, q_131_120, q_131_123, q_131_124, q_131_125, q_131_126, q_131_127, q_131_129, q_131_131, q_131_132, q_131_135, q_131_138, q_131_139, q_131_141, q_131_142, q_131_143, q_131_146, q_131_148, q_131_149, q_131_152, q_131_155, q_131_158, q_131_160, c_noTower, c_in, pm_some, Option.toList_some, Option.toList_none, List.cons_append, List.nil_append, pm_i0, pm_i1, Nat.reduceAdd, Nat.reduceMul, Int.toNat_natCast, Int.toNat_zero, hm, hp, not_true_eq_false, not_false_eq_true, and_self, true_and, and_true, ↓reduceIte, Int.reduceEq, Int.reduceLT, Int.reduceLE, Int.reduceNeg, Bool.false_eq_true]
        · obtain ⟨v, n, s, hv, hC, hE, hR⟩ := enc_all hI L
          have hvr : pm_r v := by omega
          by_cases h1 : v = -1
          · obtain ⟨⟨n1, n2⟩, sb, Z1, e1, f1, g1⟩ := hE h1
            have z46 : Z1 46 = Z 46 := f1 46 (by omega)
            have z4 : Z1 46 4 = Z 190 22 := by rw [z46]; exact a7
            have nr : pm_r (n : Int) := by omega
            by_cases hfull : Z 190 22 < 10 ∧ n ≤ 30
            · obtain ⟨m, hmm⟩ : ∃ m : Nat, Z 190 22 = (m : Int) := ⟨(Z 190 22).toNat, by omega⟩
              have m10 : m < 10 := by omega
              obtain ⟨Z2, e2, f2, o1, o2, o3, ⟨q0, q1, q2, q3, q4, q5, q6, q7, q8, q9, q10⟩, qc, ql, qs⟩ := c_startMessage (m := m) a b c n L Z1 W (by omega) m10 hm.1 (by omega) hn.1 (by omega) hfull.2
              rw [z46] at o1 q8
              rw [show Z 46 3 = Z 191 0 from a4] at q8
              have r2 : ∀ d, d ≠ 45 → d ≠ 46 → ¬ (61 + 5 * m ≤ d ∧ d < 66 + 5 * m) → Z2 d = Z d := fun d h1 h2 h3 => by rw [f2 d h2 h3, f1 d h1]
              have r190 := r2 190 (by omega) (by omega) (by omega)
              obtain ⟨Z3, e3, f3, g3⟩ := hR Z2 ⟨by rw [r190], by rw [r190], fun d h1 h2 => r2 d (by omega) (by omega) (by omega)⟩
              obtain ⟨g3, g4⟩ := g3 h1
              have t22 : Z3 190 22 = (m : Int) := by rw [f3.2 22 (by omega), r190]; exact hmm
              have t0 : Z3 191 0 = Z 191 0 := by rw [f3.1 191 (by omega) (by omega), r2 191 (by omega) (by omega) (by omega)]
              obtain ⟨Z4, hZ4⟩ : ∃ U, U = pm_up (pm_up (pm_up (pm_up (pm_up Z3 190 22 ((m : Int) + 1)) 205 m a) 206 m b) 207 m c) 208 m (Z 191 0) := ⟨_, rfl⟩
              have v1 : ∀ d, d ≠ 190 → d ≠ 205 → d ≠ 206 → d ≠ 207 → d ≠ 208 → Z4 d = Z3 d := fun d h1 h2 h3 h4 h5 => by rw [hZ4, pm_up_row h5, pm_up_row h4, pm_up_row h3, pm_up_row h2, pm_up_row h1]
              have v190 : ∀ q, q ≠ 22 → Z4 190 q = Z3 190 q := fun q hq => by rw [hZ4, pm_up_row (by omega), pm_up_row (by omega), pm_up_row (by omega), pm_up_row (by omega), pm_up_ne (by omega)]
              have v22 : Z4 190 22 = (m : Int) + 1 := by rw [hZ4, pm_up_row (by omega), pm_up_row (by omega), pm_up_row (by omega), pm_up_row (by omega), pm_up_same]
              have v5 : ∀ i, Z4 205 i = if i = m then a else Z 205 i := fun i => by
                rw [hZ4, pm_up_row (by omega), pm_up_row (by omega), pm_up_row (by omega)]
                by_cases q : i = m
                · subst q; rw [if_pos rfl, pm_up_same]
                · rw [if_neg q, pm_up_ne (by omega), pm_up_row (by omega), f3.1 205 (by omega) (by omega), r2 205 (by omega) (by omega) (by omega)]
              have v6 : ∀ i, Z4 206 i = if i = m then b else Z 206 i := fun i => by
                rw [hZ4, pm_up_row (by omega), pm_up_row (by omega)]
                by_cases q : i = m
                · subst q; rw [if_pos rfl, pm_up_same]
                · rw [if_neg q, pm_up_ne (by omega), pm_up_row (by omega), pm_up_row (by omega), f3.1 206 (by omega) (by omega), r2 206 (by omega) (by omega) (by omega)]
              have v7 : ∀ i, Z4 207 i = if i = m then c else Z 207 i := fun i => by
                rw [hZ4, pm_up_row (by omega)]
                by_cases q : i = m
                · subst q; rw [if_pos rfl, pm_up_same]
                · rw [if_neg q, pm_up_ne (by omega), pm_up_row (by omega), pm_up_row (by omega), pm_up_row (by omega), f3.1 207 (by omega) (by omega), r2 207 (by omega) (by omega) (by omega)]
              have v8 : ∀ i, Z4 208 i = if i = m then Z 191 0 else Z 208 i := fun i => by
                rw [hZ4]
                by_cases q : i = m
                · subst q; rw [if_pos rfl, pm_up_same]
                · rw [if_neg q, pm_up_ne (by omega), pm_up_row (by omega), pm_up_row (by omega), pm_up_row (by omega), pm_up_row (by omega), f3.1 208 (by omega) (by omega), r2 208 (by omega) (by omega) (by omega)]
              have v191 : Z4 191 = Z 191 := by rw [v1 191 (by omega) (by omega) (by omega) (by omega) (by omega), f3.1 191 (by omega) (by omega), r2 191 (by omega) (by omega) (by omega)]
              have hat : ((a.toNat : Nat) : Int) = a := by omega
              have hu0 := hun m (by omega) m10
              obtain ⟨Z5, e5, f5, h5a, h5b, h5c⟩ := l_R_app (f := a.toNat) (m := m) (by omega) m10 b c (-1) (c := n) hfull.2 L W n 0 Z4 (by rw [v190 20 (by omega)]; exact g3) (by rw [v191]; exact (hu0.2.2 a.toNat (by omega)).1) (by omega)
              rw [hat, show (((0 : Nat)) : Int) = 0 from rfl] at e5
              rw [v191] at h5c
              have g204 : Z4 204 = Z3 204 := v1 204 (by omega) (by omega) (by omega) (by omega) (by omega)
              rw [g204] at h5b
              have hs : ∀ d, d ≠ 45 → d ≠ 46 → ¬ (61 + 5 * m ≤ d ∧ d < 66 + 5 * m) → d ≠ 190 → d ≠ 191 → d ≠ 204 → ¬ (205 ≤ d ∧ d ≤ 208) → Z5 d = Z d := fun d h1 h2 h3 h4 h5 h6 h7 => by
                rw [f5 d h5, v1 d h4 (by omega) (by omega) (by omega) (by omega), f3.1 d h4 h6, r2 d h1 h2 h3]
              have hCr : ∀ d, d < 190 → Z5 d = Z2 d := fun d hd => by rw [f5 d (by omega), v1 d (by omega) (by omega) (by omega) (by omega) (by omega), f3.1 d (by omega) (by omega)]
              have hS : ∀ q, q ≠ 20 → q ≠ 22 → Z5 190 q = Z 190 q := fun q h1 h2 => by rw [f5 190 (by omega), v190 q h2, f3.2 q h1, r190]
              have hS22 : Z5 190 22 = (m : Int) + 1 := by rw [f5 190 (by omega)]; exact v22
              have w5 : ∀ i, Z5 205 i = if i = m then a else Z 205 i := fun i => by rw [f5 205 (by omega)]; exact v5 i
              have w6 : ∀ i, Z5 206 i = if i = m then b else Z 206 i := fun i => by rw [f5 206 (by omega)]; exact v6 i
              have w7 : ∀ i, Z5 207 i = if i = m then c else Z 207 i := fun i => by rw [f5 207 (by omega)]; exact v7 i
              have w8 : ∀ i, Z5 208 i = if i = m then Z 191 0 else Z 208 i := fun i => by rw [f5 208 (by omega)]; exact v8 i
              have hmsg : Z2 46 4 = (m : Int) + 1 := o2
              have n30 : ¬ (30 : Int) < (n : Int) := by omega
              have m10' : (m : Int) < 10 := by omega
              have m10n : ¬ (m : Int) = 10 := by omega
              refine ⟨(m : Int), Z2, W, Z5, W, by omega, ?_, ?_, Inv.up ?_, r2 _ (by omega) (by omega) (by omega), hs _ (by omega) (by omega) (by omega) (by omega) (by omega) (by omega) (by omega)⟩
              · have z4m : Z1 46 4 = (m : Int) := by omega
                have hcm : (m : Int) + 1 - 1 = (m : Int) := by omega
                rw [h1] at hC
                simp (disch := first | assumption | decide +kernel | omega | (split <;> omega)) only [q_86_0, q_86_1, q_86_4, q_86_5, q_86_8, q_86_11, q_86_12, q_86_15, q_86_16, q_86_19, q_86_22, q_86_23, q_86_24, q_86_25, q_86_28, q_86_31, q_86_32, q_86_33, q_86_36, q_86_38, q_86_39, q_86_40, q_86_43, q_86_46, q_86_48, q_86_50, q_86_51, q_86_54, q_86_56, q_86_58, q_86_59, q_86_60, q_86_61, q_86_64, q_86_65, q_86_68, q_86_69, q_86_72, q_86_75, q_86_77, q_86_78, q_86_81, q_86_84, q_86_86, q_86_89, q_86_91, q_86_93, q_86_96, q_86_98, q_86_99, q_86_100, q_86_103, q_86_104, q_86_105, q_86_106, q_86_107, q_86_110, q_86_112, q_86_115, q_86_116, q_86_119, q_86_122, q_86_123, q_86_124, c_hasTower, c_isPriority, pm_some, Option.toList_some, Option.toList_none, List.cons_append, List.nil_append, pm_i0, pm_i1, Nat.reduceAdd, Nat.reduceMul, Int.toNat_natCast, Int.toNat_zero, a1, hm, hn, hp, hne, not_true_eq_false, not_false_eq_true, and_self, true_and, and_true, ↓reduceIte, Int.reduceEq, Int.reduceLT, Int.reduceLE, Int.reduceNeg, Bool.false_eq_true, hC, e1, z4m, m10', n30, e2, hmsg, hcm]
              · have z0 : Z2 190 0 = Z 190 0 := by rw [r190]
                have g0 : 0 ≤ Z2 190 0 := by omega
                have g1' : Z2 190 0 ≤ 8 := by omega
                rw [h1] at e3
                have hrest : pm_D (131, 73, [.ref 190, .int (pm_J a), .int (pm_J b), .int (pm_J c), .int (pm_J (-1)), .null, .null], [], pm_hp L Z3 W) = some (some (.int (pm_J (m : Int))), pm_hp L Z5 W) := by
                  have y0 : ∀ X : Nat → Nat → Int, X = pm_up (pm_up (pm_up (pm_up Z3 190 22 ((m : Int) + 1)) 205 m a) 206 m b) 207 m c → X 191 0 = Z 191 0 := fun X hX => by rw [hX, pm_up_row (by omega), pm_up_row (by omega), pm_up_row (by omega), pm_up_row (by omega)]; exact t0
                  have y0' := y0 _ rfl
                  simp (disch := first | assumption | decide +kernel | omega | (split <;> omega)) only [q_131_0, q_131_1, q_131_2, q_131_5, q_131_8, q_131_9, q_131_10, q_131_13, q_131_16, q_131_17, q_131_18, q_131_19, q_131_20, q_131_21, q_131_24, q_131_27, q_131_28, q_131_29, q_131_32, q_131_34, q_131_35, q_131_36, q_131_39, q_131_41, q_131_43, q_131_46, q_131_48, q_131_50, q_131_51, q_131_52, q_131_53, q_131_56, q_131_58, q_131_61, q_131_62, q_131_65, q_131_67, q_131_70, q_131_72, q_131_73, q_131_74, q_131_77, q_131_79, q_131_80, q_131_81, q_131_84, q_131_85, q_131_86, q_131_89, q_131_90, q_131_93, q_131_95, q_131_96, q_131_97, q_131_98, q_131_101, q_131_103, q_131_104, q_131_105, q_131_106, q_131_109, q_131_111, q_131_112, q_131_113, q_131_114, q_131_117, q_131_119, q_131_120, q_131_123, q_131_124, q_131_125, q_131_126, q_131_127, q_131_131, q_131_132, q_131_135, q_131_138, q_131_139, q_131_141, q_131_142, q_131_143, q_131_146, q_131_148, q_131_149, q_131_152, q_131_155, q_131_158, q_131_160, pm_some, Option.toList_some, Option.toList_none, List.cons_append, List.nil_append, pm_i0, pm_i1, Nat.reduceAdd, Nat.reduceMul, Int.toNat_natCast, Int.toNat_zero, not_true_eq_false, not_false_eq_true, and_self, true_and, and_true, ↓reduceIte, Int.reduceEq, Int.reduceLT, Int.reduceLE, Int.reduceNeg, Bool.false_eq_true, t22, y0']
                  rw [← hZ4]
                  exact e5
                simp (disch := first | assumption | decide +kernel | omega | (split <;> omega)) only [q_131_0, q_131_1, q_131_2, q_131_5, q_131_8, q_131_9, q_131_10, q_131_13, q_131_16, q_131_17, q_131_18, q_131_19, q_131_20, q_131_21, q_131_24, q_131_27, q_131_28, q_131_29, q_131_32, q_131_34, q_131_35, q_131_36, q_131_39, q_131_41, q_131_43, q_131_46, q_131_48, q_131_50, q_131_51, q_131_52, q_131_53, q_131_56, q_131_58, q_131_61, q_131_62, q_131_65, q_131_67, q_131_70, q_131_72, q_131_74, q_131_77, q_131_79, q_131_80, q_131_81, q_131_84, q_131_85, q_131_86, q_131_89, q_131_90, q_131_93, q_131_95, q_131_96, q_131_97, q_131_98, q_131_101, q_131_103, q_131_104, q_131_105, q_131_106, q_131_109, q_131_111, q_131_112, q_131_113, q_131_114, q_131_117, q_131_119, q_131_120, q_131_123, q_131_124, q_131_125, q_131_126, q_131_127, q_131_131, q_131_132, q_131_135, q_131_138, q_131_139, q_131_141, q_131_142, q_131_143, q_131_146, q_131_148, q_131_149, q_131_152, q_131_155, q_131_158, q_131_160, c_noTower, c_in, pm_some, Option.toList_some, Option.toList_none, List.cons_append, List.nil_append, pm_i0, pm_i1, Nat.reduceAdd, Nat.reduceMul, Int.toNat_natCast, Int.toNat_zero, z0, hm, hn, hp, hne, not_true_eq_false, not_false_eq_true, and_self, true_and, and_true, ↓reduceIte, Int.reduceEq, Int.reduceLT, Int.reduceLE, Int.reduceNeg, Bool.false_eq_true, e3, t22, m10n, g3, n30]
                exact hrest
              · have s0 := hS 0 (by omega) (by omega)
                refine ⟨⟨?_, ?_, ?_, ?_, ?_, ?_, ?_, ?_⟩, ?_, ?_, ?_⟩
                · unfold lr_a
                  rw [hCr 46 (by omega), o1 2 (by omega) (by omega), o1 3 (by omega) (by omega), o2, o3, s0, hS22, h5c 0 (by omega) (by omega)]
                  exact ⟨a1, a2, a3, a4, a5, a6, rfl, by omega, by omega, by omega, by omega⟩
                · exact lr_w_congr hI.1.2.1 (hs _ (by omega) (by omega) (by omega) (by omega) (by omega) (by omega) (by omega)) (hs _ (by omega) (by omega) (by omega) (by omega) (by omega) (by omega) (by omega)) (hs _ (by omega) (by omega) (by omega) (by omega) (by omega) (by omega) (by omega)) (hs _ (by omega) (by omega) (by omega) (by omega) (by omega) (by omega) (by omega)) (hS 1 (by omega) (by omega)) (hS 2 (by omega) (by omega)) (hS 5 (by omega) (by omega)) (hs _ (by omega) (by omega) (by omega) (by omega) (by omega) (by omega) (by omega)) (hs _ (by omega) (by omega) (by omega) (by omega) (by omega) (by omega) (by omega)) (hs _ (by omega) (by omega) (by omega) (by omega) (by omega) (by omega) (by omega))
                · exact lr_f_congr hI.1.2.2.1 (hs _ (by omega) (by omega) (by omega) (by omega) (by omega) (by omega) (by omega)) (hs _ (by omega) (by omega) (by omega) (by omega) (by omega) (by omega) (by omega)) (hs _ (by omega) (by omega) (by omega) (by omega) (by omega) (by omega) (by omega)) (hs _ (by omega) (by omega) (by omega) (by omega) (by omega) (by omega) (by omega)) (hS 9 (by omega) (by omega)) (hs _ (by omega) (by omega) (by omega) (by omega) (by omega) (by omega) (by omega)) (hs _ (by omega) (by omega) (by omega) (by omega) (by omega) (by omega) (by omega)) (hs _ (by omega) (by omega) (by omega) (by omega) (by omega) (by omega) (by omega))
                · intro i hi
                  rw [hS22] at hi
                  by_cases him : i = m
                  · subst him
                    have x0 := hCr (61 + 5 * i) (by omega)
                    have x1 := hCr (61 + 5 * i + 1) (by omega)
                    have x2 := hCr (61 + 5 * i + 2) (by omega)
                    have x3 := hCr (61 + 5 * i + 3) (by omega)
                    have x4 := hCr (61 + 5 * i + 4) (by omega)
                    have y5 : Z5 205 i = a := by rw [w5, if_pos rfl]
                    have y6 : Z5 206 i = b := by rw [w6, if_pos rfl]
                    have y7 : Z5 207 i = c := by rw [w7, if_pos rfl]
                    have y8 : Z5 208 i = Z 191 0 := by rw [w8, if_pos rfl]
                    have hlo : 0 ≤ (if a < b then a else b) ∧ (if a < b then b else a) < 8 := by constructor <;> split <;> omega
                    have zlen : ∀ t : Nat, t < 8 → Z5 191 (31 + 8 * i + t) = if t = a.toNat then (n : Int) else 0 := fun t ht => by
                      by_cases q : t = a.toNat
                      · rw [if_pos q, q]; exact h5a
                      · rw [if_neg q, h5c _ (by omega) (by omega)]
                        exact (hu0.2.2 t ht).1
                    show lm (61 + 5 * i) T Z5 i
                    refine ⟨?_, ?_, ?_, ?_, ?_, ?_, ?_⟩
                    · unfold lm_s
                      rw [x0, q0, q1, q2, q3, q4, q5, q6, q8, y5, y6, y7, y8, s0, h5a]
                      exact ⟨⟨rfl, rfl, hm.1, hm.2, hn.1, hn.2, hne⟩, ⟨rfl, rfl, rfl⟩, rfl, hp.1, hp.2, rfl, by omega, by omega, rfl, a5, a6⟩
                    · unfold lm_d
                      rw [x0, q7, q9, q10, h5c (1 + i) (by omega) (by omega), h5c (21 + i) (by omega) (by omega), hu0.1, hu0.2.1]
                      exact ⟨rfl, by omega, by omega, fun q => by omega, by omega, by omega, rfl, by omega, by omega⟩
                    · intro t t1 t2
                      rw [x0, q3] at t1
                      rw [x0, q4] at t2
                      rw [x2, x0, q6, ql t (by omega), zlen t (by omega)]
                      refine ⟨rfl, ?_, ?_⟩ <;> split <;> omega
                    · intro t t1 t2
                      rw [x0, q3] at t1
                      rw [x0, q4] at t2
                      rw [x3, x4, (qs t (by omega)).1, (qs t (by omega)).2, h5c (111 + 8 * i + t) (by omega) (by omega), h5c (191 + 8 * i + t) (by omega) (by omega), (hu0.2.2 t (by omega)).2.1, (hu0.2.2 t (by omega)).2.2]
                      exact ⟨rfl, by omega, by omega, rfl, by omega, by omega⟩
                    · intro t k t1 t2 t3
                      rw [x0, q3] at t1
                      rw [x0, q4] at t2
                      rw [x2, ql t (by omega)] at t3
                      by_cases q : t = a.toNat
                      · rw [if_pos q] at t3
                        subst q
                        rw [x1, qc k (by omega), g1 k (by omega) (by omega), h5b k (by omega) (by omega), g4 k (by omega)]
                        exact ⟨rfl, sb k (by omega)⟩
                      · rw [if_neg q] at t3
                        omega
                    · intro l t1 t2
                      rw [x0, q3] at t1
                      rw [x0, q4] at t2
                      rw [y5, y6, x2, ql l (by omega), ql (l + 1) (by omega)]
                      by_cases u : a < b
                      · rw [if_pos u] at t1 t2 ⊢
                        rw [if_neg (by omega)]
                        split <;> omega
                      · rw [if_neg u] at t1 t2 ⊢
                        rw [if_neg (show ¬ l = a.toNat by omega)]
                        split <;> omega
                    · intro _
                      rw [y6, x2, x0, q6, ql _ (by omega), if_neg (by omega)]
                      omega
                  · have hi' : (i : Int) < Z 190 22 := by omega
                    exact lm_congr (hms i hi') (hs _ (by omega) (by omega) (by omega) (by omega) (by omega) (by omega) (by omega)) (hs _ (by omega) (by omega) (by omega) (by omega) (by omega) (by omega) (by omega)) (hs _ (by omega) (by omega) (by omega) (by omega) (by omega) (by omega) (by omega)) (hs _ (by omega) (by omega) (by omega) (by omega) (by omega) (by omega) (by omega)) (hs _ (by omega) (by omega) (by omega) (by omega) (by omega) (by omega) (by omega)) s0 a3 (by rw [w5, if_neg him]) (by rw [w6, if_neg him]) (by rw [w7, if_neg him]) (by rw [w8, if_neg him]) (fun q hq => h5c q (by unfold s191 at hq; omega) (by unfold s191 at hq; omega))
                · intro i h1 h2
                  rw [hS22] at h1
                  have := hun i (by omega) h2
                  refine ⟨?_, ?_, fun t ht => ⟨?_, ?_, ?_⟩⟩
                  · rw [h5c _ (by omega) (by omega)]; exact this.1
                  · rw [h5c _ (by omega) (by omega)]; exact this.2.1
                  · rw [h5c _ (by omega) (by omega)]; exact (this.2.2 t ht).1
                  · rw [h5c _ (by omega) (by omega)]; exact (this.2.2 t ht).2.1
                  · rw [h5c _ (by omega) (by omega)]; exact (this.2.2 t ht).2.2
                · exact lr_c_congr hco (fun l hl => hs _ (by omega) (by omega) (by omega) (by omega) (by omega) (by omega) (by omega)) (fun q _ _ => h5c q (by omega) (by omega))
                · exact lr_s_congr hsh (hs _ (by omega) (by omega) (by omega) (by omega) (by omega) (by omega) (by omega)) s0 (fun q _ _ => h5c q (by omega) (by omega))
                · intro h
                  rw [hCr 46 (by omega), o3] at h
                  omega
                · exact tx_congr htx (by rw [hs 1 (by omega) (by omega) (by omega) (by omega) (by omega) (by omega) (by omega)]) (hs _ (by omega) (by omega) (by omega) (by omega) (by omega) (by omega) (by omega)) (hS 13 (by omega) (by omega)) (hs _ (by omega) (by omega) (by omega) (by omega) (by omega) (by omega) (by omega))
                · exact bk_congr hbk (by rw [hs 3 (by omega) (by omega) (by omega) (by omega) (by omega) (by omega) (by omega)]) (fun d _ _ => hs _ (by omega) (by omega) (by omega) (by omega) (by omega) (by omega) (by omega)) (hS 15 (by omega) (by omega)) (hs _ (by omega) (by omega) (by omega) (by omega) (by omega) (by omega) (by omega)) (hs _ (by omega) (by omega) (by omega) (by omega) (by omega) (by omega) (by omega)) (hs _ (by omega) (by omega) (by omega) (by omega) (by omega) (by omega) (by omega)) (hs _ (by omega) (by omega) (by omega) (by omega) (by omega) (by omega) (by omega))
                · rw [hS 29 (by omega) (by omega)]; exact hon
            · obtain ⟨Z2, e2, f2, g2⟩ := hR Z1 ⟨by rw [f1 190 (by omega)], by rw [f1 190 (by omega)], fun d h1 h2 => f1 d (by omega)⟩
              obtain ⟨g3, g4⟩ := g2 h1
              rw [h1] at hC e2
              have z0 : Z1 190 0 = Z 190 0 := by rw [f1 190 (by omega)]
              have g0 : 0 ≤ Z1 190 0 := by omega
              have g1' : Z1 190 0 ≤ 8 := by omega
              have t22 : Z2 190 22 = Z 190 22 := by rw [f2.2 22 (by omega), f1 190 (by omega)]
              refine ⟨-5, Z1, W, Z2, W, by decide, ?_, ?_, Inv.up (Inv_ofT hI (fun d h1 h2 h3 => by rw [f2.1 d h2 h3, f1 d h1]) (fun q hq => by rw [f2.2 q hq, f1 190 (by omega)])), f1 _ (by omega), by rw [f2.1 _ (by omega) (by omega), f1 _ (by omega)]⟩
              · by_cases h10 : Z 190 22 < 10
                · have n30 : (30 : Int) < (n : Int) := by omega
                  simp (disch := first | assumption | decide +kernel | omega | (split <;> omega)) only [q_86_0, q_86_1, q_86_4, q_86_5, q_86_8, q_86_11, q_86_12, q_86_15, q_86_16, q_86_19, q_86_22, q_86_23, q_86_24, q_86_25, q_86_28, q_86_31, q_86_32, q_86_33, q_86_36, q_86_38, q_86_39, q_86_40, q_86_43, q_86_46, q_86_48, q_86_50, q_86_51, q_86_54, q_86_56, q_86_58, q_86_59, q_86_60, q_86_61, q_86_64, q_86_65, q_86_68, q_86_69, q_86_72, q_86_75, q_86_77, q_86_78, q_86_81, q_86_84, q_86_86, q_86_89, q_86_91, q_86_93, q_86_96, q_86_98, q_86_99, q_86_100, q_86_103, q_86_104, q_86_105, q_86_106, q_86_107, q_86_110, q_86_112, q_86_115, q_86_116, q_86_119, q_86_122, q_86_123, q_86_124, c_hasTower, c_isPriority, pm_some, Option.toList_some, Option.toList_none, List.cons_append, List.nil_append, pm_i0, pm_i1, Nat.reduceAdd, Nat.reduceMul, Int.toNat_natCast, Int.toNat_zero, a1, hm, hn, hp, hne, not_true_eq_false, not_false_eq_true, and_self, true_and, and_true, ↓reduceIte, Int.reduceEq, Int.reduceLT, Int.reduceLE, Int.reduceNeg, Bool.false_eq_true, hC, e1, z4, h10, n30]
                · simp (disch := first | assumption | decide +kernel | omega | (split <;> omega)) only [q_86_0, q_86_1, q_86_4, q_86_5, q_86_8, q_86_11, q_86_12, q_86_15, q_86_16, q_86_19, q_86_22, q_86_23, q_86_24, q_86_25, q_86_28, q_86_31, q_86_32, q_86_33, q_86_36, q_86_38, q_86_39, q_86_40, q_86_43, q_86_46, q_86_48, q_86_50, q_86_51, q_86_54, q_86_56, q_86_58, q_86_59, q_86_60, q_86_61, q_86_64, q_86_65, q_86_68, q_86_69, q_86_72, q_86_75, q_86_77, q_86_78, q_86_81, q_86_84, q_86_86, q_86_89, q_86_91, q_86_93, q_86_96, q_86_98, q_86_99, q_86_100, q_86_103, q_86_104, q_86_105, q_86_106, q_86_107, q_86_110, q_86_112, q_86_115, q_86_116, q_86_119, q_86_122, q_86_123, q_86_124, c_hasTower, c_isPriority, pm_some, Option.toList_some, Option.toList_none, List.cons_append, List.nil_append, pm_i0, pm_i1, Nat.reduceAdd, Nat.reduceMul, Int.toNat_natCast, Int.toNat_zero, a1, hm, hn, hp, hne, not_true_eq_false, not_false_eq_true, and_self, true_and, and_true, ↓reduceIte, Int.reduceEq, Int.reduceLT, Int.reduceLE, Int.reduceNeg, Bool.false_eq_true, hC, e1, z4, h10]
              · by_cases h10 : Z 190 22 = 10
                · simp (disch := first | assumption | decide +kernel | omega | (split <;> omega)) only [q_131_0, q_131_1, q_131_2, q_131_5, q_131_8, q_131_9, q_131_10, q_131_13, q_131_16, q_131_17, q_131_18, q_131_19, q_131_20, q_131_21, q_131_24, q_131_27, q_131_28, q_131_29, q_131_32, q_131_34, q_131_35, q_131_36, q_131_39, q_131_41, q_131_43, q_131_46, q_131_48, q_131_50, q_131_51, q_131_52, q_131_53, q_131_56, q_131_58, q_131_61, q_131_62, q_131_65, q_131_67, q_131_70, q_131_72, q_131_73, q_131_74, q_131_77, q_131_79, q_131_80, q_131_81, q_131_84, q_131_85, q_131_86, q_131_89, q_131_90, q_131_93, q_131_95, q_131_96, q_131_97, q_131_98, q_131_101, q_131_103, q_131_104, q_131_105, q_131_106, q_131_109, q_131_111, q_131_112, q_131_113, q_131_114, q_131_117, q_131_119, q_131_120, q_131_123, q_131_124, q_131_125, q_131_126, q_131_127, q_131_131, q_131_132, q_131_135, q_131_138, q_131_139, q_131_141, q_131_142, q_131_143, q_131_146, q_131_148, q_131_149, q_131_152, q_131_155, q_131_158, q_131_160, c_noTower, c_in, pm_some, Option.toList_some, Option.toList_none, List.cons_append, List.nil_append, pm_i0, pm_i1, Nat.reduceAdd, Nat.reduceMul, Int.toNat_natCast, Int.toNat_zero, z0, hm, hn, hp, hne, not_true_eq_false, not_false_eq_true, and_self, true_and, and_true, ↓reduceIte, Int.reduceEq, Int.reduceLT, Int.reduceLE, Int.reduceNeg, Bool.false_eq_true, e2, t22, h10]
                · have n30 : (30 : Int) < (n : Int) := by omega
                  simp (disch := first | assumption | decide +kernel | omega | (split <;> omega)) only [q_131_0, q_131_1, q_131_2, q_131_5, q_131_8, q_131_9, q_131_10, q_131_13, q_131_16, q_131_17, q_131_18, q_131_19, q_131_20, q_131_21, q_131_24, q_131_27, q_131_28, q_131_29, q_131_32, q_131_34, q_131_35, q_131_36, q_131_39, q_131_41, q_131_43, q_131_46, q_131_48, q_131_50, q_131_51, q_131_52, q_131_53, q_131_56, q_131_58, q_131_61, q_131_62, q_131_65, q_131_67, q_131_70, q_131_72, q_131_73, q_131_74, q_131_77, q_131_79, q_131_80, q_131_81, q_131_84, q_131_85, q_131_86, q_131_89, q_131_90, q_131_93, q_131_95, q_131_96, q_131_97, q_131_98, q_131_101, q_131_103, q_131_104, q_131_105, q_131_106, q_131_109, q_131_111, q_131_112, q_131_113, q_131_114, q_131_117, q_131_119, q_131_120, q_131_123, q_131_124, q_131_125, q_131_126, q_131_127, q_131_131, q_131_132, q_131_135, q_131_138, q_131_139, q_131_141, q_131_142, q_131_143, q_131_146, q_131_148, q_131_149, q_131_152, q_131_155, q_131_158, q_131_160, c_noTower, c_in, pm_some, Option.toList_some, Option.toList_none, List.cons_append, List.nil_append, pm_i0, pm_i1, Nat.reduceAdd, Nat.reduceMul, Int.toNat_natCast, Int.toNat_zero, z0, hm, hn, hp, hne, not_true_eq_false, not_false_eq_true, and_self, true_and, and_true, ↓reduceIte, Int.reduceEq, Int.reduceLT, Int.reduceLE, Int.reduceNeg, Bool.false_eq_true, e2, t22, h10, g3, n30]
          · obtain ⟨Z2, e2, f2, g2⟩ := hR Z ⟨rfl, rfl, fun _ _ _ => rfl⟩
            have hn' : ¬ v < 0 := by omega
            refine ⟨-100 - v, Z, W, Z2, W, by omega, ?_, ?_, Inv.up (Inv_ofT hI (fun d h1 h2 h3 => f2.1 d h2 h3) (fun q hq => f2.2 q hq)), rfl, f2.1 _ (by omega) (by omega)⟩
            · simp (disch := first | assumption | decide +kernel | omega | (split <;> omega)) only [q_86_0, q_86_1, q_86_4, q_86_5, q_86_8, q_86_11, q_86_12, q_86_15, q_86_16, q_86_19, q_86_22, q_86_23, q_86_24, q_86_25, q_86_28, q_86_31, q_86_32, q_86_33, q_86_36, q_86_38, q_86_39, q_86_40, q_86_43, q_86_46, q_86_48, q_86_50, q_86_51, q_86_54, q_86_56, q_86_58, q_86_59, q_86_60, q_86_61, q_86_64, q_86_65, q_86_68, q_86_69, q_86_72, q_86_75, q_86_77, q_86_78, q_86_81, q_86_84, q_86_86, q_86_89, q_86_91, q_86_93, q_86_96, q_86_98, q_86_99, q_86_100, q_86_103, q_86_104, q_86_105, q_86_106, q_86_107, q_86_110, q_86_112, q_86_115, q_86_116, q_86_119, q_86_122, q_86_123, q_86_124, c_hasTower, c_isPriority, pm_some, Option.toList_some, Option.toList_none, List.cons_append, List.nil_append, pm_i0, pm_i1, Nat.reduceAdd, Nat.reduceMul, Int.toNat_natCast, Int.toNat_zero, a1, hm, hn, hp, hne, not_true_eq_false, not_false_eq_true, and_self, true_and, and_true, ↓reduceIte, Int.reduceEq, Int.reduceLT, Int.reduceLE, Int.reduceNeg, Bool.false_eq_true, hC, h1]
            · simp (disch := first | assumption | decide +kernel | omega | (split <;> omega)) only [q_131_0, q_131_1, q_131_2, q_131_5, q_131_8, q_131_9, q_131_10, q_131_13, q_131_16, q_131_17, q_131_18, q_131_19, q_131_20, q_131_21, q_131_24, q_131_27, q_131_28, q_131_29, q_131_32, q_131_34, q_131_35, q_131_36, q_131_39, q_131_41, q_131_43, q_131_46, q_131_48, q_131_50, q_131_51, q_131_52, q_131_53, q_131_56, q_131_58, q_131_61, q_131_62, q_131_65, q_131_67, q_131_70, q_131_72, q_131_73, q_131_74, q_131_77, q_131_79, q_131_80, q_131_81, q_131_84, q_131_85, q_131_86, q_131_89, q_131_90, q_131_93, q_131_95, q_131_96, q_131_97, q_131_98, q_131_101, q_131_103, q_131_104, q_131_105, q_131_106, q_131_109, q_131_111, q_131_112, q_131_113, q_131_114, q_131_117, q_131_119, q_131_120, q_131_123, q_131_124, q_131_125, q_131_126, q_131_127, q_131_131, q_131_132, q_131_135, q_131_138, q_131_139, q_131_141, q_131_142, q_131_143, q_131_146, q_131_148, q_131_149, q_131_152, q_131_155, q_131_158, q_131_160, c_noTower, c_in, pm_some, Option.toList_some, Option.toList_none, List.cons_append, List.nil_append, pm_i0, pm_i1, Nat.reduceAdd, Nat.reduceMul, Int.toNat_natCast, Int.toNat_zero, hm, hn, hp, hne, not_true_eq_false, not_false_eq_true, and_self, true_and, and_true, ↓reduceIte, Int.reduceEq, Int.reduceLT, Int.reduceLE, Int.reduceNeg, Bool.false_eq_true, e2, hn']
      · refine Op.same hI (-3) (by decide) ?_ ?_
        · simp (disch := first | assumption | decide +kernel | omega | (split <;> omega)) only [q_86_0, q_86_1, q_86_4, q_86_5, q_86_8, q_86_11, q_86_12, q_86_15, q_86_16, q_86_19, q_86_22, q_86_23, q_86_24, q_86_25, q_86_28, q_86_31, q_86_32, q_86_33, q_86_36, q_86_38, q_86_39, q_86_40, q_86_43, q_86_46, q_86_48, q_86_50, q_86_51, q_86_54, q_86_56, q_86_58, q_86_59, q_86_60, q_86_61, q_86_64, q_86_65, q_86_68, q_86_69, q_86_72, q_86_75, q_86_77, q_86_78, q_86_81, q_86_84, q_86_86, q_86_89, q_86_91, q_86_93, q_86_96, q_86_98, q_86_99, q_86_100, q_86_103, q_86_104, q_86_105, q_86_106, q_86_107, q_86_110, q_86_112, q_86_115, q_86_116, q_86_119, q_86_122, q_86_123, q_86_124, c_hasTower, c_isPriority, pm_some, Option.toList_some, Option.toList_none, List.cons_append, List.nil_append, pm_i0, pm_i1, Nat.reduceAdd, Nat.reduceMul, Int.toNat_natCast, Int.toNat_zero, a1, hm, hn, hp, not_true_eq_false, not_false_eq_true, and_self, true_and, and_true, ↓reduceIte, Int.reduceEq, Int.reduceLT, Int.reduceLE, Int.reduceNeg, Bool.false_eq_true]
        · simp (disch := first | assumption | decide +kernel | omega | (split <;> omega)) only [q_131_0, q_131_1, q_131_2, q_131_5, q_131_8, q_131_9, q_131_10, q_131_13, q_131_16, q_131_17, q_131_18, q_131_19, q_131_20, q_131_21, q_131_24, q_131_27, q_131_28, q_131_29, q_131_32, q_131_34, q_131_35, q_131_36, q_131_39, q_131_41, q_131_43, q_131_46, q_131_48, q_131_50, q_131_51, q_131_52, q_131_53, q_131_56, q_131_58, q_131_61, q_131_62, q_131_65, q_131_67, q_131_70, q_131_72, q_131_73, q_131_74, q_131_77, q_131_79, q_131_80, q_131_81, q_131_84, q_131_85, q_131_86, q_131_89, q_131_90, q_131_93, q_131_95, q_131_96, q_131_97, q_131_98, q_131_101, q_131_103, q_131_104, q_131_105, q_131_106, q_131_109, q_131_111, q_131_112, q_131_113, q_131_114, q_131_117, q_131_119, q_131_120, q_131_123, q_131_124, q_131_125, q_131_126, q_131_127, q_131_129, q_131_131, q_131_132, q_131_135, q_131_138, q_131_139, q_131_141, q_131_142, q_131_143, q_131_146, q_131_148, q_131_149, q_131_152, q_131_155, q_131_158, q_131_160, c_noTower, c_in, pm_some, Option.toList_some, Option.toList_none, List.cons_append, List.nil_append, pm_i0, pm_i1, Nat.reduceAdd, Nat.reduceMul, Int.toNat_natCast, Int.toNat_zero, hm, hn, hp, not_true_eq_false, not_false_eq_true, and_self, true_and, and_true, ↓reduceIte, Int.reduceEq, Int.reduceLT, Int.reduceLE, Int.reduceNeg, Bool.false_eq_true]
    · refine Op.same hI (-1) (by decide) ?_ ?_
      · simp (disch := first | assumption | decide +kernel | omega | (split <;> omega)) only [q_86_0, q_86_1, q_86_4, q_86_5, q_86_8, q_86_11, q_86_12, q_86_15, q_86_16, q_86_19, q_86_22, q_86_23, q_86_24, q_86_25, q_86_28, q_86_31, q_86_32, q_86_33, q_86_36, q_86_38, q_86_39, q_86_40, q_86_43, q_86_46, q_86_48, q_86_50, q_86_51, q_86_54, q_86_56, q_86_58, q_86_59, q_86_60, q_86_61, q_86_64, q_86_65, q_86_68, q_86_69, q_86_72, q_86_75, q_86_77, q_86_78, q_86_81, q_86_84, q_86_86, q_86_89, q_86_91, q_86_93, q_86_96, q_86_98, q_86_99, q_86_100, q_86_103, q_86_104, q_86_105, q_86_106, q_86_107, q_86_110, q_86_112, q_86_115, q_86_116, q_86_119, q_86_122, q_86_123, q_86_124, c_hasTower, pm_some, Option.toList_some, Option.toList_none, List.cons_append, List.nil_append, pm_i0, pm_i1, Nat.reduceAdd, Nat.reduceMul, Int.toNat_natCast, Int.toNat_zero, a1, hm, hn, not_true_eq_false, not_false_eq_true, and_self, true_and, and_true, ↓reduceIte, Int.reduceEq, Int.reduceLT, Int.reduceLE, Int.reduceNeg, Bool.false_eq_true]
      · simp (disch := first | assumption | decide +kernel | omega | (split <;> omega)) only [q_131_0, q_131_1, q_131_2, q_131_5, q_131_8, q_131_9, q_131_10, q_131_13, q_131_16, q_131_17, q_131_18, q_131_19, q_131_20, q_131_21, q_131_24, q_131_27, q_131_28, q_131_29, q_131_32, q_131_34, q_131_35, q_131_36, q_131_39, q_131_41, q_131_43, q_131_46, q_131_48, q_131_50, q_131_51, q_131_52, q_131_53, q_131_56, q_131_58, q_131_61, q_131_62, q_131_65, q_131_67, q_131_70, q_131_72, q_131_73, q_131_74, q_131_77, q_131_79, q_131_80, q_131_81, q_131_84, q_131_85, q_131_86, q_131_89, q_131_90, q_131_93, q_131_95, q_131_96, q_131_97, q_131_98, q_131_101, q_131_103, q_131_104, q_131_105, q_131_106, q_131_109, q_131_111, q_131_112, q_131_113, q_131_114, q_131_117, q_131_119, q_131_120, q_131_123, q_131_124, q_131_125, q_131_126, q_131_127, q_131_129, q_131_131, q_131_132, q_131_135, q_131_138, q_131_139, q_131_141, q_131_142, q_131_143, q_131_146, q_131_148, q_131_149, q_131_152, q_131_155, q_131_158, q_131_160, c_noTower, pm_some, Option.toList_some, Option.toList_none, List.cons_append, List.nil_append, pm_i0, pm_i1, Nat.reduceAdd, Nat.reduceMul, Int.toNat_natCast, Int.toNat_zero, hm, hn, not_true_eq_false, not_false_eq_true, and_self, true_and, and_true, ↓reduceIte, Int.reduceEq, Int.reduceLT, Int.reduceLE, Int.reduceNeg, Bool.false_eq_true]
  · refine Op.same hI (-1) (by decide) ?_ ?_
    · simp (disch := first | assumption | decide +kernel | omega | (split <;> omega)) only [q_86_0, q_86_1, q_86_4, q_86_5, q_86_8, q_86_11, q_86_12, q_86_15, q_86_16, q_86_19, q_86_22, q_86_23, q_86_24, q_86_25, q_86_28, q_86_31, q_86_32, q_86_33, q_86_36, q_86_38, q_86_39, q_86_40, q_86_43, q_86_46, q_86_48, q_86_50, q_86_51, q_86_54, q_86_56, q_86_58, q_86_59, q_86_60, q_86_61, q_86_64, q_86_65, q_86_68, q_86_69, q_86_72, q_86_75, q_86_77, q_86_78, q_86_81, q_86_84, q_86_86, q_86_89, q_86_91, q_86_93, q_86_96, q_86_98, q_86_99, q_86_100, q_86_103, q_86_104, q_86_105, q_86_106, q_86_107, q_86_110, q_86_112, q_86_115, q_86_116, q_86_119, q_86_122, q_86_123, q_86_124, c_hasTower, pm_some, Option.toList_some, Option.toList_none, List.cons_append, List.nil_append, pm_i0, pm_i1, Nat.reduceAdd, Nat.reduceMul, Int.toNat_natCast, Int.toNat_zero, a1, hm, not_true_eq_false, not_false_eq_true, and_self, true_and, and_true, ↓reduceIte, Int.reduceEq, Int.reduceLT, Int.reduceLE, Int.reduceNeg, Bool.false_eq_true]
    · simp (disch := first | assumption | decide +kernel | omega | (split <;> omega)) only [q_131_0, q_131_1, q_131_2, q_131_5, q_131_8, q_131_9, q_131_10, q_131_13, q_131_16, q_131_17, q_131_18, q_131_19, q_131_20, q_131_21, q_131_24, q_131_27, q_131_28, q_131_29, q_131_32, q_131_34, q_131_35, q_131_36, q_131_39, q_131_41, q_131_43, q_131_46, q_131_48, q_131_50, q_131_51, q_131_52, q_131_53, q_131_56, q_131_58, q_131_61, q_131_62, q_131_65, q_131_67, q_131_70, q_131_72, q_131_73, q_131_74, q_131_77, q_131_79, q_131_80, q_131_81, q_131_84, q_131_85, q_131_86, q_131_89, q_131_90, q_131_93, q_131_95, q_131_96, q_131_97, q_131_98, q_131_101, q_131_103, q_131_104, q_131_105, q_131_106, q_131_109, q_131_111, q_131_112, q_131_113, q_131_114, q_131_117, q_131_119, q_131_120, q_131_123, q_131_124, q_131_125, q_131_126, q_131_127, q_131_129, q_131_131, q_131_132, q_131_135, q_131_138, q_131_139, q_131_141, q_131_142, q_131_143, q_131_146, q_131_148, q_131_149, q_131_152, q_131_155, q_131_158, q_131_160, c_noTower, pm_some, Option.toList_some, Option.toList_none, List.cons_append, List.nil_append, pm_i0, pm_i1, Nat.reduceAdd, Nat.reduceMul, Int.toNat_natCast, Int.toNat_zero, hm, not_true_eq_false, not_false_eq_true, and_self, true_and, and_true, ↓reduceIte, Int.reduceEq, Int.reduceLT, Int.reduceLE, Int.reduceNeg, Bool.false_eq_true]
