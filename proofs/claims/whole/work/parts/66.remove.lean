/-! a word goes -/
theorem c_drop (i : Nat) (L : Nat) (Z : Nat → Nat → Int) (W : Nat → Nat) (B : bkC Z W) (hi : (i : Int) < Z 3 1) : pm_D (4, 0, [.ref 3, .int (pm_J (i : Int)), .null], [], pm_hp L Z W) = some (none, pm_hp L (pm_up Z 3 1 (Z 3 1 - 1)) (pm_upW (pm_upW W i (W (Z 3 1 - 1).toNat)) (Z 3 1 - 1).toNat (W i))) := by
  obtain ⟨⟨b0, b1⟩, b2, -⟩ := B
  obtain ⟨j, hj, hW⟩ := b2 i (by omega)
  obtain ⟨k1, k2, k3⟩ := kWord hj hW
  obtain ⟨j', hj', hW'⟩ := b2 (Z 3 1 - 1).toNat (by omega)
  obtain ⟨k1', k2', k3'⟩ := kWord hj' hW'
  have hn : ¬ (i : Int) < 0 := by omega
  have h20 : (i : Int) < 20 := by omega
  simp (disch := first | assumption | decide +kernel | omega | (split <;> omega)) only [q_4_0, q_4_1, q_4_4, q_4_5, q_4_6, q_4_9, q_4_12, q_4_13, q_4_14, q_4_17, q_4_18, q_4_19, q_4_22, q_4_23, q_4_26, q_4_27, q_4_28, q_4_29, q_4_30, q_4_33, q_4_34, q_4_35, q_4_38, q_4_39, q_4_42, q_4_43, q_4_44, q_4_45, q_4_48, q_4_49, q_4_52, q_4_53, q_4_54, pm_some, Option.toList_some, Option.toList_none, List.cons_append, List.nil_append, pm_i0, pm_i1, Nat.reduceAdd, Nat.reduceMul, Int.toNat_natCast, Int.toNat_zero, not_true_eq_false, not_false_eq_true, and_self, true_and, and_true, ↓reduceIte, Int.reduceEq, Int.reduceLT, Int.reduceLE, Int.reduceNeg, Bool.false_eq_true, hn, hi, pm_up_same]
theorem l_rm2 (at' : Int) {w : Nat} (hw : w < 19) (L : Nat) (W : Nat → Nat) : ∀ (n k : Nat) (Z : Nat → Nat → Int), k + n = 10 → ∃ Z', pm_D (124, 81, [.ref 190, .int (pm_J at'), .int (pm_J (w : Int)), .int (pm_J (k : Int))], [], pm_hp L Z W) = pm_D (124, 118, [.ref 190, .int (pm_J at'), .int (pm_J (w : Int)), .int (pm_J 10)], [], pm_hp L Z' W) ∧ (∀ a, a ≠ 201 → Z' a = Z a) ∧ ∀ q, Z' 201 q = if 10 * w + k ≤ q ∧ q < 10 * w + 10 then Z 201 (q + 10) else Z 201 q := by
  intro n
  induction n with
  | zero =>
    intro k Z hk
    obtain rfl : k = 10 := by omega
    refine ⟨Z, ?_, fun _ _ => rfl, fun q => by rw [if_neg (by omega)]⟩
    rw [q_124_81]
    simp (disch := first | assumption | decide +kernel | omega | (split <;> omega)) only [q_124_0, q_124_1, q_124_2, q_124_3, q_124_6, q_124_9, q_124_10, q_124_11, q_124_14, q_124_16, q_124_17, q_124_18, q_124_19, q_124_22, q_124_23, q_124_24, q_124_27, q_124_28, q_124_30, q_124_31, q_124_34, q_124_37, q_124_38, q_124_41, q_124_42, q_124_43, q_124_46, q_124_47, q_124_48, q_124_49, q_124_50, q_124_51, q_124_52, q_124_55, q_124_56, q_124_57, q_124_60, q_124_61, q_124_62, q_124_63, q_124_64, q_124_65, q_124_66, q_124_69, q_124_70, q_124_71, q_124_74, q_124_75, q_124_76, q_124_77, q_124_78, q_124_79, q_124_80, q_124_82, q_124_84, q_124_87, q_124_88, q_124_91, q_124_93, q_124_94, q_124_95, q_124_96, q_124_97, q_124_98, q_124_101, q_124_103, q_124_104, q_124_105, q_124_107, q_124_108, q_124_109, q_124_110, q_124_111, q_124_112, q_124_115, q_124_121, q_124_124, q_124_125, q_124_128, pm_some, Option.toList_some, Option.toList_none, List.cons_append, List.nil_append, pm_i0, pm_i1, Nat.reduceAdd, Nat.reduceMul, Int.toNat_natCast, Int.toNat_zero, not_true_eq_false, not_false_eq_true, and_self, true_and, and_true, ↓reduceIte, Int.reduceEq, Int.reduceLT, Int.reduceLE, Int.reduceNeg, Bool.false_eq_true, Int.lt_irrefl, Int.cast_ofNat_Int]
  | succ n ih =>
    intro k Z hk
    have hlt : (k : Int) < 10 := by omega
    have e1 : (10 * (w : Int) + (k : Int)).toNat = 10 * w + k := by omega
    have e2 : (10 * (w : Int) + 10 + (k : Int)).toNat = 10 * w + k + 10 := by omega
    have x1 : 0 ≤ 10 * (w : Int) + (k : Int) := by omega
    have x2 : 10 * (w : Int) + (k : Int) < 200 := by omega
    have x3 : 0 ≤ 10 * (w : Int) + 10 + (k : Int) := by omega
    have x4 : 10 * (w : Int) + 10 + (k : Int) < 200 := by omega
    obtain ⟨Z', e, f, g⟩ := ih (k + 1) (pm_up Z 201 (10 * w + k) (Z 201 (10 * w + k + 10))) (by omega)
    rw [show (((k + 1 : Nat)) : Int) = (k : Int) + 1 by omega] at e
    refine ⟨Z', ?_, fun a ha => by rw [f a ha, pm_up_row ha], fun q => ?_⟩
    · rw [q_124_81]
      simp (disch := first | assumption | decide +kernel | omega | (split <;> omega)) only [q_124_0, q_124_1, q_124_2, q_124_3, q_124_6, q_124_9, q_124_10, q_124_11, q_124_14, q_124_16, q_124_17, q_124_18, q_124_19, q_124_22, q_124_23, q_124_24, q_124_27, q_124_28, q_124_30, q_124_31, q_124_34, q_124_37, q_124_38, q_124_41, q_124_42, q_124_43, q_124_46, q_124_47, q_124_48, q_124_49, q_124_50, q_124_51, q_124_52, q_124_55, q_124_56, q_124_57, q_124_60, q_124_61, q_124_62, q_124_63, q_124_64, q_124_65, q_124_66, q_124_69, q_124_70, q_124_71, q_124_74, q_124_75, q_124_76, q_124_77, q_124_78, q_124_79, q_124_80, q_124_82, q_124_84, q_124_87, q_124_88, q_124_91, q_124_93, q_124_94, q_124_95, q_124_96, q_124_97, q_124_98, q_124_101, q_124_103, q_124_104, q_124_105, q_124_107, q_124_108, q_124_109, q_124_110, q_124_111, q_124_112, q_124_115, q_124_121, q_124_124, q_124_125, q_124_128, pm_some, Option.toList_some, Option.toList_none, List.cons_append, List.nil_append, pm_i0, pm_i1, Nat.reduceAdd, Nat.reduceMul, Int.toNat_natCast, Int.toNat_zero, not_true_eq_false, not_false_eq_true, and_self, true_and, and_true, ↓reduceIte, Int.reduceEq, Int.reduceLT, Int.reduceLE, Int.reduceNeg, Bool.false_eq_true, hlt, e1, e2]
      exact e
    · rw [g q]
      by_cases c : q = 10 * w + k
      · subst c
        rw [if_neg (by omega), if_pos (by omega), pm_up_same]
      · rw [pm_up_ne (show ¬ (201 = 201 ∧ q = 10 * w + k) by omega)]
        by_cases c2 : 10 * w + k ≤ q ∧ q < 10 * w + 10
        · rw [if_pos (by omega), if_pos c2, pm_up_ne (by omega)]
        · rw [if_neg (by omega), if_neg c2]
theorem l_rm1 (at' : Int) {M : Nat} (hM : M ≤ 19) (L : Nat) (W : Nat → Nat) : ∀ (n w : Nat) (Z : Nat → Nat → Int) (v3 : Value), Z 190 15 = (M : Int) → w + n = M → ∃ (Z' : Nat → Nat → Int) (w3 : Value), pm_D (124, 29, [.ref 190, .int (pm_J at'), .int (pm_J (w : Int)), v3], [], pm_hp L Z W) = pm_D (124, 124, [.ref 190, .int (pm_J at'), .int (pm_J (M : Int)), w3], [], pm_hp L Z' W) ∧ (∀ a, ¬ (200 ≤ a ∧ a < 204) → Z' a = Z a) ∧ (∀ q, Z' 200 q = if w ≤ q ∧ q < M then Z 200 (q + 1) else Z 200 q) ∧ (∀ q, Z' 202 q = if w ≤ q ∧ q < M then Z 202 (q + 1) else Z 202 q) ∧ (∀ q, Z' 203 q = if w ≤ q ∧ q < M then Z 203 (q + 1) else Z 203 q) ∧ ∀ q, Z' 201 q = if 10 * w ≤ q ∧ q < 10 * M then Z 201 (q + 10) else Z 201 q := by
  intro n
  induction n with
  | zero =>
    intro w Z v3 h15 hk
    obtain rfl : w = M := by omega
    have hr : pm_r (w : Int) := by omega
    refine ⟨Z, v3, ?_, fun _ _ => rfl, fun q => by rw [if_neg (by omega)], fun q => by rw [if_neg (by omega)], fun q => by rw [if_neg (by omega)], fun q => by rw [if_neg (by omega)]⟩
    rw [q_124_29]
    simp (disch := first | assumption | decide +kernel | omega | (split <;> omega)) only [q_124_0, q_124_1, q_124_2, q_124_3, q_124_6, q_124_9, q_124_10, q_124_11, q_124_14, q_124_16, q_124_17, q_124_18, q_124_19, q_124_22, q_124_23, q_124_24, q_124_27, q_124_28, q_124_30, q_124_31, q_124_34, q_124_37, q_124_38, q_124_41, q_124_42, q_124_43, q_124_46, q_124_47, q_124_48, q_124_49, q_124_50, q_124_51, q_124_52, q_124_55, q_124_56, q_124_57, q_124_60, q_124_61, q_124_62, q_124_63, q_124_64, q_124_65, q_124_66, q_124_69, q_124_70, q_124_71, q_124_74, q_124_75, q_124_76, q_124_77, q_124_78, q_124_79, q_124_80, q_124_82, q_124_84, q_124_87, q_124_88, q_124_91, q_124_93, q_124_94, q_124_95, q_124_96, q_124_97, q_124_98, q_124_101, q_124_103, q_124_104, q_124_105, q_124_107, q_124_108, q_124_109, q_124_110, q_124_111, q_124_112, q_124_115, q_124_118, q_124_121, q_124_125, q_124_128, pm_some, Option.toList_some, Option.toList_none, List.cons_append, List.nil_append, pm_i0, pm_i1, Nat.reduceAdd, Nat.reduceMul, Int.toNat_natCast, Int.toNat_zero, not_true_eq_false, not_false_eq_true, and_self, true_and, and_true, ↓reduceIte, Int.reduceEq, Int.reduceLT, Int.reduceLE, Int.reduceNeg, Bool.false_eq_true, h15, Int.lt_irrefl]
  | succ n ih =>
    intro w Z v3 h15 hk
    have hlt : (w : Int) < (M : Int) := by omega
    have e1 : ((w : Int) + 1).toNat = w + 1 := by omega
    have w20 : (w : Int) + 1 < 20 := by omega
    obtain ⟨U, hU⟩ : ∃ U, U = pm_up (pm_up (pm_up Z 200 w (Z 200 (w + 1))) 202 w (Z 202 (w + 1))) 203 w (Z 203 (w + 1)) := ⟨_, rfl⟩
    have u1 : ∀ a, a ≠ 200 → a ≠ 202 → a ≠ 203 → U a = Z a := fun a h1 h2 h3 => by rw [hU, pm_up_row h3, pm_up_row h2, pm_up_row h1]
    have u200 : ∀ q, U 200 q = if q = w then Z 200 (w + 1) else Z 200 q := fun q => by
      rw [hU, pm_up_row (by omega), pm_up_row (by omega)]
      by_cases c : q = w
      · subst c; rw [if_pos rfl, pm_up_same]
      · rw [if_neg c, pm_up_ne (by omega)]
    have u202 : ∀ q, U 202 q = if q = w then Z 202 (w + 1) else Z 202 q := fun q => by
      rw [hU, pm_up_row (by omega)]
      by_cases c : q = w
      · subst c; rw [if_pos rfl, pm_up_same]
      · rw [if_neg c, pm_up_ne (by omega), pm_up_row (by omega)]
    have u203 : ∀ q, U 203 q = if q = w then Z 203 (w + 1) else Z 203 q := fun q => by
      rw [hU]
      by_cases c : q = w
      · subst c; rw [if_pos rfl, pm_up_same]
      · rw [if_neg c, pm_up_ne (by omega), pm_up_row (by omega), pm_up_row (by omega)]
    obtain ⟨Z1, x1, f1, g1⟩ := l_rm2 at' (w := w) (by omega) L W 10 0 U (by omega)
    rw [show (((0 : Nat)) : Int) = 0 from rfl] at x1
    obtain ⟨Z2, w3, x2, f2, p0, p2, p3, p1⟩ := ih (w + 1) Z1 (.int (pm_J 10)) (by rw [f1 190 (by omega), u1 190 (by omega) (by omega) (by omega)]; exact h15) (by omega)
    rw [show (((w + 1 : Nat)) : Int) = (w : Int) + 1 by omega] at x2
    have h118 : pm_D (124, 118, [.ref 190, .int (pm_J at'), .int (pm_J (w : Int)), .int (pm_J 10)], [], pm_hp L Z1 W) = pm_D (124, 29, [.ref 190, .int (pm_J at'), .int (pm_J ((w : Int) + 1)), .int (pm_J 10)], [], pm_hp L Z1 W) := by
      simp (disch := first | assumption | decide +kernel | omega | (split <;> omega)) only [q_124_0, q_124_1, q_124_2, q_124_3, q_124_6, q_124_9, q_124_10, q_124_11, q_124_14, q_124_16, q_124_17, q_124_18, q_124_19, q_124_22, q_124_23, q_124_24, q_124_27, q_124_28, q_124_30, q_124_31, q_124_34, q_124_37, q_124_38, q_124_41, q_124_42, q_124_43, q_124_46, q_124_47, q_124_48, q_124_49, q_124_50, q_124_51, q_124_52, q_124_55, q_124_56, q_124_57, q_124_60, q_124_61, q_124_62, q_124_63, q_124_64, q_124_65, q_124_66, q_124_69, q_124_70, q_124_71, q_124_74, q_124_75, q_124_76, q_124_77, q_124_78, q_124_79, q_124_80, q_124_82, q_124_84, q_124_87, q_124_88, q_124_91, q_124_93, q_124_94, q_124_95, q_124_96, q_124_97, q_124_98, q_124_101, q_124_103, q_124_104, q_124_105, q_124_107, q_124_108, q_124_109, q_124_110, q_124_111, q_124_112, q_124_115, q_124_118, q_124_121, q_124_125, q_124_128, pm_some, Option.toList_some, Option.toList_none, List.cons_append, List.nil_append, pm_i0, pm_i1, Nat.reduceAdd, Nat.reduceMul, Int.toNat_natCast, Int.toNat_zero]
    refine ⟨Z2, w3, ?_, fun a ha => by rw [f2 a ha, f1 a (by omega), u1 a (by omega) (by omega) (by omega)], fun q => ?_, fun q => ?_, fun q => ?_, fun q => ?_⟩
    · rw [q_124_29]
      simp (disch := first | assumption | decide +kernel | omega | (split <;> omega)) only [q_124_0, q_124_1, q_124_2, q_124_3, q_124_6, q_124_9, q_124_10, q_124_11, q_124_14, q_124_16, q_124_17, q_124_18, q_124_19, q_124_22, q_124_23, q_124_24, q_124_27, q_124_28, q_124_30, q_124_31, q_124_34, q_124_37, q_124_38, q_124_41, q_124_42, q_124_43, q_124_46, q_124_47, q_124_48, q_124_49, q_124_50, q_124_51, q_124_52, q_124_55, q_124_56, q_124_57, q_124_60, q_124_61, q_124_62, q_124_63, q_124_64, q_124_65, q_124_66, q_124_69, q_124_70, q_124_71, q_124_74, q_124_75, q_124_76, q_124_77, q_124_78, q_124_79, q_124_80, q_124_82, q_124_84, q_124_87, q_124_88, q_124_91, q_124_93, q_124_94, q_124_95, q_124_96, q_124_97, q_124_98, q_124_101, q_124_103, q_124_104, q_124_105, q_124_107, q_124_108, q_124_109, q_124_110, q_124_111, q_124_112, q_124_115, q_124_121, q_124_125, q_124_128, pm_some, Option.toList_some, Option.toList_none, List.cons_append, List.nil_append, pm_i0, pm_i1, Nat.reduceAdd, Nat.reduceMul, Int.toNat_natCast, Int.toNat_zero, not_true_eq_false, not_false_eq_true, and_self, true_and, and_true, ↓reduceIte, Int.reduceEq, Int.reduceLT, Int.reduceLE, Int.reduceNeg, Bool.false_eq_true, h15, hlt, e1, pm_up_row]
      rw [← hU, x1, h118]
      exact x2
    · rw [p0, f1 200 (by omega), u200, u200]
      by_cases c : q = w
      · subst c
        rw [if_neg (by omega), if_pos rfl, if_pos (by omega)]
      · by_cases c2 : w + 1 ≤ q ∧ q < M
        · rw [if_pos c2, if_neg (by omega), if_pos (by omega)]
        · rw [if_neg c2, if_neg c, if_neg (by omega)]
    · rw [p2, f1 202 (by omega), u202, u202]
      by_cases c : q = w
      · subst c
        rw [if_neg (by omega), if_pos rfl, if_pos (by omega)]
      · by_cases c2 : w + 1 ≤ q ∧ q < M
        · rw [if_pos c2, if_neg (by omega), if_pos (by omega)]
        · rw [if_neg c2, if_neg c, if_neg (by omega)]
    · rw [p3, f1 203 (by omega), u203, u203]
      by_cases c : q = w
      · subst c
        rw [if_neg (by omega), if_pos rfl, if_pos (by omega)]
      · by_cases c2 : w + 1 ≤ q ∧ q < M
        · rw [if_pos c2, if_neg (by omega), if_pos (by omega)]
        · rw [if_neg c2, if_neg c, if_neg (by omega)]
    · rw [p1, g1, g1, u1 201 (by omega) (by omega) (by omega)]
      by_cases c : 10 * (w + 1) ≤ q ∧ q < 10 * M
      · rw [if_pos c, if_neg (by omega), if_pos (by omega)]
      · rw [if_neg c]
        by_cases c2 : 10 * w + 0 ≤ q ∧ q < 10 * w + 10
        · rw [if_pos c2, if_pos (by omega)]
        · rw [if_neg c2, if_neg (by omega)]
theorem op_removeWord : Op_removeWord := by
  intro T L Z W hI hT0 hT
  obtain ⟨⟨⟨a1, a2, a3, a4, a5, a6, a7, a8, a9, a10, a11⟩, ⟨⟨w1, w2, w3, w4, w5, w6⟩, ⟨w7, w8, w9⟩, w10⟩, ⟨⟨f1, f2, f3⟩, f4⟩, hms, hun, hco, hsh, htk⟩, htx, hbk, hon⟩ := id hI
  have a8' : 0 ≤ Z 46 4 := by omega
  have a9' : Z 46 4 ≤ 10 := by omega
  have a2' : 0 ≤ Z 46 2 := by omega
  have a3' : Z 46 2 ≤ 8 := by omega
  have a2'' : 0 ≤ Z 190 0 := by omega
  have BC := bkC_of hbk
  have BR := bkR_of hbk htx
  obtain ⟨t1, t2, t3, t4⟩ := id htx
  obtain ⟨⟨b0, b1, b1'⟩, b2, b3, b4, b5, b6, b7, b8⟩ := id hbk
  have hrC : ∀ k : Nat, k < (Z 190 13).toNat → pm_r (Z 2 k) := fun k hk => by
    have := t4 k (by omega)
    have := tx_code_r (Z 199 k) (by omega) (by omega)
    omega
  have hEn : ((Z 190 13).toNat : Int) = Z 190 13 := by omega
  have hpo := c_placeOf (f := 0) (e := (Z 190 13).toNat) L Z W BC (by omega) (by omega) hrC
  rw [hEn, show (((0 : Nat)) : Int) = 0 from rfl] at hpo
  rcases find_text (f := 0) (e := (Z 190 13).toNat) hbk htx (by omega) (by omega) with ⟨fc, fr, fn⟩ | ⟨p, at', hp, hat, fc, fr, fs, fst⟩
  · have hwb := c_wordBetween (f := 0) (e := (Z 190 13).toNat) L Z W BR (by omega) (by omega)
    rw [hEn, show (((0 : Nat)) : Int) = 0 from rfl, fr] at hwb
    rw [fc] at hpo
    refine Op.same hI (-6) (by decide) ?_ ?_
    · simp (disch := first | assumption | decide +kernel | omega | (split <;> omega)) only [q_84_0, q_84_1, q_84_4, q_84_5, q_84_8, q_84_9, q_84_10, q_84_13, q_84_16, q_84_19, q_84_20, q_84_21, q_84_22, q_84_25, q_84_27, q_84_28, q_84_29, q_84_32, q_84_33, q_84_36, q_84_37, q_84_40, q_84_43, pm_some, Option.toList_some, Option.toList_none, List.cons_append, List.nil_append, pm_i0, pm_i1, Nat.reduceAdd, Nat.reduceMul, Int.toNat_natCast, Int.toNat_zero, not_true_eq_false, not_false_eq_true, and_self, true_and, and_true, ↓reduceIte, Int.reduceEq, Int.reduceLT, Int.reduceLE, Int.reduceNeg, Bool.false_eq_true, t1, hpo]
    · simp (disch := first | assumption | decide +kernel | omega | (split <;> omega)) only [q_124_0, q_124_1, q_124_2, q_124_3, q_124_6, q_124_9, q_124_10, q_124_11, q_124_14, q_124_16, q_124_17, q_124_18, q_124_19, q_124_22, q_124_23, q_124_24, q_124_27, q_124_28, q_124_30, q_124_31, q_124_34, q_124_37, q_124_38, q_124_41, q_124_42, q_124_43, q_124_46, q_124_47, q_124_48, q_124_49, q_124_50, q_124_51, q_124_52, q_124_55, q_124_56, q_124_57, q_124_60, q_124_61, q_124_62, q_124_63, q_124_64, q_124_65, q_124_66, q_124_69, q_124_70, q_124_71, q_124_74, q_124_75, q_124_76, q_124_77, q_124_78, q_124_79, q_124_80, q_124_82, q_124_84, q_124_87, q_124_88, q_124_91, q_124_93, q_124_94, q_124_95, q_124_96, q_124_97, q_124_98, q_124_101, q_124_103, q_124_104, q_124_105, q_124_107, q_124_108, q_124_109, q_124_110, q_124_111, q_124_112, q_124_115, q_124_118, q_124_121, q_124_124, q_124_125, q_124_128, pm_some, Option.toList_some, Option.toList_none, List.cons_append, List.nil_append, pm_i0, pm_i1, Nat.reduceAdd, Nat.reduceMul, Int.toNat_natCast, Int.toNat_zero, not_true_eq_false, not_false_eq_true, and_self, true_and, and_true, ↓reduceIte, Int.reduceEq, Int.reduceLT, Int.reduceLE, Int.reduceNeg, Bool.false_eq_true, hwb]
  · rw [fc] at hpo
    obtain ⟨N, hN⟩ : ∃ N : Nat, Z 190 15 = (N : Int) + 1 := ⟨(Z 190 15 - 1).toNat, by omega⟩
    have hN' : (Z 190 15 - 1).toNat = N := by omega
    have hdr := c_drop p L Z W BC (by omega)
    rw [b0, hN'] at hdr
    have hp0 : ¬ (p : Int) = -1 := by omega
    have hpr : pm_r (p : Int) := by omega
    have ha0 : ¬ (at' : Int) < 0 := by omega
    have har : pm_r (at' : Int) := by omega
    have y3 : pm_up Z 3 1 (Z 190 15 - 1) 3 1 = Z 190 15 - 1 := pm_up_same _ _ _ _
    obtain ⟨Z1, hZ1⟩ : ∃ U, U = pm_up Z 3 1 (Z 190 15 - 1) := ⟨_, rfl⟩
    obtain ⟨W1, hW1⟩ : ∃ V, V = pm_upW (pm_upW W p (W N)) N (W p) := ⟨_, rfl⟩
    rw [← hZ1, ← hW1] at hdr
    rw [← hZ1] at y3
    have z1 : ∀ b, b ≠ 3 → Z1 b = Z b := fun b hb => by rw [hZ1, pm_up_row hb]
    have BR1 : bkR Z1 := bkR_ag ⟨by rw [z1 190 (by omega)], by rw [z1 190 (by omega)], fun a h1 h2 => z1 a (by omega)⟩ BR
    have hwb := wordBetween_ag (Y := Z1) (f := 0) (e := (Z 190 13).toNat) ⟨by rw [z1 190 (by omega)], by rw [z1 190 (by omega)], fun a h1 h2 => z1 a (by omega)⟩ L W1 BR (by omega) (by omega)
    rw [hEn, show (((0 : Nat)) : Int) = 0 from rfl, fr] at hwb
    have y13 : Z1 190 13 = Z 190 13 := by rw [z1 190 (by omega)]
    have y15 : Z1 190 15 = Z 190 15 := by rw [z1 190 (by omega)]
    obtain ⟨Z3, w3, e3, f3, p0, p2, p3, p1⟩ := l_rm1 (at' : Int) (M := N) (by omega) L W1 (N - at') at' (pm_up Z1 190 15 (Z 190 15 - 1)) .null (by rw [pm_up_same]; omega) (by omega)
    have h124 : pm_D (124, 124, [.ref 190, .int (pm_J (at' : Int)), .int (pm_J (N : Int)), w3], [], pm_hp L Z3 W1) = some (some (.int (pm_J (Z 190 15 - 1))), pm_hp L Z3 W1) := by
      have q15 : Z3 190 15 = Z 190 15 - 1 := by rw [f3 190 (by omega), pm_up_same]
      simp (disch := first | assumption | decide +kernel | omega | (split <;> omega)) only [q_124_0, q_124_1, q_124_2, q_124_3, q_124_6, q_124_9, q_124_10, q_124_11, q_124_14, q_124_16, q_124_17, q_124_18, q_124_19, q_124_22, q_124_23, q_124_24, q_124_27, q_124_28, q_124_30, q_124_31, q_124_34, q_124_37, q_124_38, q_124_41, q_124_42, q_124_43, q_124_46, q_124_47, q_124_48, q_124_49, q_124_50, q_124_51, q_124_52, q_124_55, q_124_56, q_124_57, q_124_60, q_124_61, q_124_62, q_124_63, q_124_64, q_124_65, q_124_66, q_124_69, q_124_70, q_124_71, q_124_74, q_124_75, q_124_76, q_124_77, q_124_78, q_124_79, q_124_80, q_124_82, q_124_84, q_124_87, q_124_88, q_124_91, q_124_93, q_124_94, q_124_95, q_124_96, q_124_97, q_124_98, q_124_101, q_124_103, q_124_104, q_124_105, q_124_107, q_124_108, q_124_109, q_124_110, q_124_111, q_124_112, q_124_115, q_124_118, q_124_121, q_124_124, q_124_125, q_124_128, pm_some, Option.toList_some, Option.toList_none, List.cons_append, List.nil_append, pm_i0, pm_i1, Nat.reduceAdd, Nat.reduceMul, Int.toNat_natCast, Int.toNat_zero, not_true_eq_false, not_false_eq_true, and_self, true_and, and_true, ↓reduceIte, Int.reduceEq, Int.reduceLT, Int.reduceLE, Int.reduceNeg, Bool.false_eq_true, q15]
    refine ⟨Z 190 15 - 1, Z1, W1, Z3, W1, by omega, ?_, ?_, Inv.up ?_, z1 _ (by omega), by rw [f3 _ (by omega), pm_up_row (by omega), z1 _ (by omega)]⟩
    · simp (disch := first | assumption | decide +kernel | omega | (split <;> omega)) only [q_84_0, q_84_1, q_84_4, q_84_5, q_84_8, q_84_9, q_84_10, q_84_13, q_84_16, q_84_19, q_84_20, q_84_21, q_84_22, q_84_25, q_84_27, q_84_28, q_84_29, q_84_32, q_84_33, q_84_36, q_84_37, q_84_40, q_84_43, pm_some, Option.toList_some, Option.toList_none, List.cons_append, List.nil_append, pm_i0, pm_i1, Nat.reduceAdd, Nat.reduceMul, Int.toNat_natCast, Int.toNat_zero, not_true_eq_false, not_false_eq_true, and_self, true_and, and_true, ↓reduceIte, Int.reduceEq, Int.reduceLT, Int.reduceLE, Int.reduceNeg, Bool.false_eq_true, t1, hpo, hp0, hdr, y3]
    · simp (disch := first | assumption | decide +kernel | omega | (split <;> omega)) only [q_124_0, q_124_1, q_124_2, q_124_3, q_124_6, q_124_9, q_124_10, q_124_11, q_124_14, q_124_16, q_124_17, q_124_18, q_124_19, q_124_22, q_124_23, q_124_24, q_124_27, q_124_28, q_124_30, q_124_31, q_124_34, q_124_37, q_124_38, q_124_41, q_124_42, q_124_43, q_124_46, q_124_47, q_124_48, q_124_49, q_124_50, q_124_51, q_124_52, q_124_55, q_124_56, q_124_57, q_124_60, q_124_61, q_124_62, q_124_63, q_124_64, q_124_65, q_124_66, q_124_69, q_124_70, q_124_71, q_124_74, q_124_75, q_124_76, q_124_77, q_124_78, q_124_79, q_124_80, q_124_82, q_124_84, q_124_87, q_124_88, q_124_91, q_124_93, q_124_94, q_124_95, q_124_96, q_124_97, q_124_98, q_124_101, q_124_103, q_124_104, q_124_105, q_124_107, q_124_108, q_124_109, q_124_110, q_124_111, q_124_112, q_124_115, q_124_118, q_124_121, q_124_125, q_124_128, pm_some, Option.toList_some, Option.toList_none, List.cons_append, List.nil_append, pm_i0, pm_i1, Nat.reduceAdd, Nat.reduceMul, Int.toNat_natCast, Int.toNat_zero, not_true_eq_false, not_false_eq_true, and_self, true_and, and_true, ↓reduceIte, Int.reduceEq, Int.reduceLT, Int.reduceLE, Int.reduceNeg, Bool.false_eq_true, y13, hwb, ha0, y15]
      rw [e3]
      exact h124
    · have hC : ∀ b, ¬ (b = 3 ∨ b = 190 ∨ (200 ≤ b ∧ b < 204)) → Z3 b = Z b := fun b hb => by rw [f3 b (by omega), pm_up_row (by omega), z1 b (by omega)]
      have hS : ∀ q, q ≠ 15 → Z3 190 q = Z 190 q := fun q hq => by rw [f3 190 (by omega), pm_up_ne (by omega), z1 190 (by omega)]
      have hS15 : Z3 190 15 = (N : Int) := by rw [f3 190 (by omega), pm_up_same]; omega
      have z3 : Z3 3 1 = (N : Int) := by rw [f3 3 (by omega), pm_up_row (by omega), y3]; omega
      rw [pm_up_row (show 200 ≠ 190 by decide), z1 200 (by omega)] at p0
      rw [pm_up_row (show 202 ≠ 190 by decide), z1 202 (by omega)] at p2
      rw [pm_up_row (show 203 ≠ 190 by decide), z1 203 (by omega)] at p3
      rw [pm_up_row (show 201 ≠ 190 by decide), z1 201 (by omega)] at p1
      clear hZ1 e3 h124 hdr hwb hpo
      have n20 : N < 20 := by omega
      -- old index and old word
      obtain ⟨sg, hsg⟩ : ∃ sg : Nat → Nat, ∀ i, sg i = if i = p then N else i := ⟨fun i => if i = p then N else i, fun _ => rfl⟩
      obtain ⟨ta, hta⟩ : ∃ ta : Nat → Nat, ∀ w, ta w = if w < at' then w else w + 1 := ⟨fun w => if w < at' then w else w + 1, fun _ => rfl⟩
      have sg1 : ∀ i, i < N → sg i ≠ p ∧ sg i < N + 1 := fun i hi => by
        rw [hsg]
        split <;> omega
      have ta1 : ∀ w, w < N → ta w ≠ at' ∧ ta w < N + 1 := fun w hw => by
        rw [hta]
        split <;> omega
      have sgi : ∀ i j, i < N → j < N → sg i = sg j → i = j := fun i j hi hj h => by
        rw [hsg, hsg] at h
        split at h <;> split at h <;> omega
      have tai : ∀ w v, ta w = ta v → w = v := fun w v h => by
        rw [hta, hta] at h
        split at h <;> split at h <;> omega
      have hWs : ∀ i, i < N → W1 i = W (sg i) := fun i hi => by
        rw [hW1, hsg]
        unfold pm_upW
        rw [if_neg (by omega)]
        split <;> rfl
      have q200 : ∀ w, w < N → Z3 200 w = Z 200 (ta w) := fun w hw => by
        rw [p0, hta]
        by_cases c : w < at'
        · rw [if_neg (by omega), if_pos c]
        · rw [if_pos (by omega), if_neg c]
      have q202 : ∀ w, w < N → Z3 202 w = Z 202 (ta w) := fun w hw => by
        rw [p2, hta]
        by_cases c : w < at'
        · rw [if_neg (by omega), if_pos c]
        · rw [if_pos (by omega), if_neg c]
      have q203 : ∀ w, w < N → Z3 203 w = Z 203 (ta w) := fun w hw => by
        rw [p3, hta]
        by_cases c : w < at'
        · rw [if_neg (by omega), if_pos c]
        · rw [if_pos (by omega), if_neg c]
      have q201 : ∀ w k, w < N → k < 10 → Z3 201 (10 * w + k) = Z 201 (10 * ta w + k) := fun w k hw hk => by
        rw [p1, hta]
        by_cases c : w < at'
        · rw [if_neg (by omega), if_pos c]
        · rw [if_pos (by omega), if_neg c, show 10 * w + k + 10 = 10 * (w + 1) + k by omega]
      have rowW : ∀ i, i < 20 → Z3 (W i) = Z (W i) ∧ Z3 (W i + 1) = Z (W i + 1) := fun i hi => by
        obtain ⟨j, hj, hW⟩ := b2 i hi
        exact ⟨hC _ (by omega), hC _ (by omega)⟩
      have same : ∀ i w, i < N → w < N → (bk_same Z3 W1 i w ↔ bk_same Z W (sg i) (ta w)) := fun i w hi hw => by
        obtain ⟨x1, x2, -⟩ := b4 (ta w) (by have := ta1 w hw; omega)
        have rw1 := rowW (sg i) (by have := sg1 i hi; omega)
        unfold bk_same
        rw [hWs i hi, rw1.1, rw1.2, q200 w hw, q202 w hw, q203 w hw]
        constructor
        · rintro ⟨s1, s2, s3, s4⟩
          exact ⟨s1, s2, s3, fun k hk => by rw [s4 k hk, q201 w k hw (by omega)]⟩
        · rintro ⟨s1, s2, s3, s4⟩
          exact ⟨s1, s2, s3, fun k hk => by rw [s4 k hk, q201 w k hw (by omega)]⟩
      refine ⟨lr_congr hI.1 (fun b h1 h2 => hC b (by omega)) (hS 0 (by omega)) (hS 1 (by omega)) (hS 2 (by omega)) (hS 5 (by omega)) (hS 9 (by omega)) (hS 22 (by omega)) (hC _ (by omega)) (fun b h1 h2 => hC _ (by omega)) (fun b h1 h2 => hC _ (by omega)), tx_congr htx (by rw [hC 1 (by omega)]) (hC _ (by omega)) (hS 13 (by omega)) (hC _ (by omega)), ⟨⟨?_, ?_, ?_⟩, ?_, ?_, ?_, ?_, ?_, ?_, ?_⟩, by rw [hS 29 (by omega)]; exact hon⟩
      · rw [z3, hS15]
      · rw [hS15]; omega
      · rw [hS15]; omega
      · intro i hi
        rw [hW1]
        unfold pm_upW
        split
        · exact b2 p (by omega)
        · split
          · exact b2 N n20
          · exact b2 i hi
      · intro i j hi hj h
        rw [hW1] at h
        unfold pm_upW at h
        have inj : ∀ x y, x < 20 → y < 20 → W x = W y → x = y := b3
        by_cases i1 : i = N
        · by_cases j1 : j = N
          · omega
          · rw [if_pos i1, if_neg j1] at h
            by_cases j2 : j = p
            · rw [if_pos j2] at h
              have := inj p N (by omega) n20 h
              omega
            · rw [if_neg j2] at h
              have := inj p j (by omega) hj h
              omega
        · rw [if_neg i1] at h
          by_cases i2 : i = p
          · rw [if_pos i2] at h
            by_cases j1 : j = N
            · rw [if_pos j1] at h
              have := inj N p n20 (by omega) h
              omega
            · rw [if_neg j1] at h
              by_cases j2 : j = p
              · omega
              · rw [if_neg j2] at h
                have := inj N j n20 hj h
                omega
          · rw [if_neg i2] at h
            by_cases j1 : j = N
            · rw [if_pos j1] at h
              have := inj i p hi (by omega) h
              omega
            · rw [if_neg j1] at h
              by_cases j2 : j = p
              · rw [if_pos j2] at h
                have := inj i N hi n20 h
                omega
              · rw [if_neg j2] at h
                exact inj i j hi hj h
      · intro w hw
        rw [hS15] at hw
        have hw' : w < N := by omega
        obtain ⟨x1, x2, x3, x4, x5, x6, x7⟩ := b4 (ta w) (by have := ta1 w hw'; omega)
        unfold bk_w
        rw [q200 w hw', q202 w hw', q203 w hw']
        exact ⟨x1, x2, x3, x4, x5, x6, fun k hk => by rw [q201 w k hw' (by omega)]; exact x7 k hk⟩
      · intro w v hw hv hne
        rw [hS15] at hw hv
        have hw' : w < N := by omega
        have hv' : v < N := by omega
        obtain ⟨x1, x2, -⟩ := b4 (ta w) (by have := ta1 w hw'; omega)
        obtain ⟨n1, n2⟩ := b5 (ta w) (ta v) (by have := ta1 w hw'; omega) (by have := ta1 v hv'; omega) (fun q => hne (tai w v q))
        unfold bk_ne
        rw [q200 w hw', q202 w hw', q203 w hw', q200 v hv', q202 v hv', q203 v hv']
        refine ⟨n1, fun q => n2 ⟨q.1, fun k hk => ?_⟩⟩
        have := q.2 k hk
        rw [q201 w k hw' (by omega), q201 v k hv' (by omega)] at this
        exact this
      · intro i hi
        rw [hS15] at hi
        have hi' : i < N := by omega
        obtain ⟨w0, hw0, hs0⟩ := b6 (sg i) (by have := sg1 i hi'; omega)
        have hne : w0 ≠ at' := fun q => (sg1 i hi').1 (b8 (sg i) p at' (by have := sg1 i hi'; omega) hp hat (q ▸ hs0) fs)
        by_cases c : w0 < at'
        · have e : ta w0 = w0 := by rw [hta, if_pos c]
          exact ⟨w0, by rw [hS15]; omega, (same i w0 hi' (by omega)).mpr (by rw [e]; exact hs0)⟩
        · have e : ta (w0 - 1) = w0 := by rw [hta, if_neg (by omega)]; omega
          exact ⟨w0 - 1, by rw [hS15]; omega, (same i (w0 - 1) hi' (by omega)).mpr (by rw [e]; exact hs0)⟩
      · intro w hw
        rw [hS15] at hw
        have hw' : w < N := by omega
        obtain ⟨i0, hi0, hs0⟩ := b7 (ta w) (by have := ta1 w hw'; omega)
        have hne : i0 ≠ p := fun q => by
          have h1 := (b5 (ta w) at' (by have := ta1 w hw'; omega) hat (ta1 w hw').1).1
          rw [q] at hs0
          obtain ⟨-, s2, s3, -⟩ := hs0
          obtain ⟨-, s2', s3', -⟩ := fs
          exact h1 ⟨by omega, by omega⟩
        by_cases c : i0 = N
        · have e : sg p = i0 := by rw [hsg, if_pos rfl, c]
          exact ⟨p, by rw [hS15]; omega, (same p w (by omega) hw').mpr (by rw [e]; exact hs0)⟩
        · have e : sg i0 = i0 := by rw [hsg, if_neg hne]
          exact ⟨i0, by rw [hS15]; omega, (same i0 w (by omega) hw').mpr (by rw [e]; exact hs0)⟩
      · intro i j w hi hj hw h1 h2
        rw [hS15] at hi hj hw
        have hi' : i < N := by omega
        have hj' : j < N := by omega
        have hw' : w < N := by omega
        exact sgi i j hi' hj' (b8 (sg i) (sg j) (ta w) (by have := sg1 i hi'; omega) (by have := sg1 j hj'; omega) (by have := ta1 w hw'; omega) ((same i w hi' hw').mp h1) ((same j w hj' hw').mp h2))
