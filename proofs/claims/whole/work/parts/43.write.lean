/-! calls that write without a loop -/
theorem c_changeDay (w : Nat) (l g : Int) (L : Nat) (Z : Nat → Nat → Int) (W : Nat → Nat) (hw : pm_kd w = 6) (hl : pm_r l) (hg : pm_r g) (h0 : pm_r (Z w 0)) (h1 : pm_r (Z w 1)) : pm_D (65, 0, [.ref w, .int (pm_J l), .int (pm_J g), .null], [], pm_hp L Z W) = some (some (.int (pm_J (if Z w 0 = l ∧ Z w 1 = g then 0 else 1))), pm_hp L (pm_up (pm_up Z w 0 l) w 1 g) W) := by
  simp (disch := first | assumption | decide +kernel | omega | (split <;> omega)) only [q_65_0, q_65_1, q_65_2, q_65_5, q_65_8, q_65_9, q_65_10, q_65_13, q_65_16, q_65_17, q_65_20, q_65_21, q_65_22, q_65_23, q_65_24, q_65_27, q_65_28, q_65_29, q_65_32, q_65_33, pm_some, Option.toList_some, Option.toList_none, List.cons_append, List.nil_append, pm_i0, pm_i1, Nat.reduceAdd, Nat.reduceMul, Int.toNat_natCast]
  by_cases e0 : l = Z w 0
  · by_cases e1 : g = Z w 1
    · simp only [e0, e1, not_true_eq_false, not_false_eq_true, and_self, true_and, and_true, ↓reduceIte, Int.reduceEq, Int.reduceLT, Int.reduceLE, Int.reduceNeg]
    · have e1' : ¬ Z w 1 = g := fun q => e1 q.symm
      simp only [e0, e1, e1', not_true_eq_false, not_false_eq_true, and_self, true_and, and_true, ↓reduceIte, Int.reduceEq, Int.reduceLT, Int.reduceLE, Int.reduceNeg, and_false]
  · have e0' : ¬ Z w 0 = l := fun q => e0 q.symm
    simp only [e0, e0', not_true_eq_false, not_false_eq_true, and_self, true_and, and_true, ↓reduceIte, Int.reduceEq, Int.reduceLT, Int.reduceLE, Int.reduceNeg, false_and]
theorem c_takeFog (w : Nat) (l f g : Int) (L : Nat) (Z : Nat → Nat → Int) (W : Nat → Nat) (hw : pm_kd w = 6) (q1 : pm_kd (w + 1) = 11) (q2 : pm_ln (w + 1) = 12) (q3 : pm_kd (w + 2) = 11) (q4 : pm_ln (w + 2) = 12) (q5 : pm_kd (w + 3) = 11) (q6 : pm_ln (w + 3) = 12) (h0 : 0 ≤ Z w 5) (h1 : Z w 5 < 12) : pm_D (67, 0, [.ref w, .int (pm_J l), .int (pm_J f), .int (pm_J g)], [], pm_hp L Z W) = some (none, pm_hp L (pm_up (pm_up (pm_up (pm_up Z (w + 1) (Z w 5).toNat l) (w + 2) (Z w 5).toNat f) (w + 3) (Z w 5).toNat g) w 5 (Z w 5 + 1)) W) := by
  simp (disch := first | assumption | decide +kernel | omega | (split <;> omega)) only [q_67_0, q_67_1, q_67_4, q_67_6, q_67_9, q_67_10, q_67_13, q_67_14, q_67_17, q_67_18, q_67_19, q_67_20, q_67_23, q_67_24, q_67_27, q_67_28, q_67_29, q_67_30, q_67_33, q_67_34, q_67_37, q_67_38, q_67_39, q_67_40, q_67_41, q_67_44, q_67_45, q_67_46, q_67_49, pm_some, Option.toList_some, Option.toList_none, List.cons_append, List.nil_append, pm_i0, pm_i1, Nat.reduceAdd, Nat.reduceMul, Int.toNat_natCast, pm_up_ne, h1, not_true_eq_false, not_false_eq_true, and_self, true_and, and_true, ↓reduceIte, Int.reduceEq, Int.reduceLT, Int.reduceLE, Int.reduceNeg]
theorem c_codeOf (c : Int) (h : pm_H) (h0 : 0 ≤ c) (h1 : c < 65536) : pm_D (59, 0, [.int (pm_J c)], [], h) = some (some (.int (pm_J (tx_code c))), h) := by
  simp (disch := first | assumption | decide +kernel | omega | (split <;> omega)) only [q_59_0, q_59_1, q_59_3, q_59_6, q_59_7, q_59_9, q_59_12, q_59_13, q_59_15, q_59_16, q_59_17, q_59_18, q_59_19, q_59_20, q_59_22, q_59_25, q_59_26, q_59_29, q_59_30, pm_some, Option.toList_some, Option.toList_none, List.cons_append, List.nil_append, pm_i0, pm_i1, Nat.reduceAdd, Nat.reduceMul, Int.toNat_natCast]
  unfold tx_code
  by_cases e0 : c < 97
  · have e1 : ¬ (97 ≤ c ∧ c ≤ 122) := by omega
    by_cases e2 : c = 32
    · simp only [e0, e1, e2, not_true_eq_false, not_false_eq_true, and_self, true_and, and_true, ↓reduceIte, Int.reduceEq, Int.reduceLT, Int.reduceLE, Int.reduceNeg]
    · simp only [e0, e1, e2, not_true_eq_false, not_false_eq_true, and_self, true_and, and_true, ↓reduceIte, Int.reduceEq, Int.reduceLT, Int.reduceLE, Int.reduceNeg]
  · by_cases e1 : 122 < c
    · have e2 : ¬ (97 ≤ c ∧ c ≤ 122) := by omega
      have e3 : ¬ c = 32 := by omega
      simp only [e0, e1, e2, e3, not_true_eq_false, not_false_eq_true, and_self, true_and, and_true, ↓reduceIte, Int.reduceEq, Int.reduceLT, Int.reduceLE, Int.reduceNeg]
    · have e2 : 97 ≤ c ∧ c ≤ 122 := by omega
      have e3 : c - 97 + 1 = c - 96 := by omega
      simp only [e0, e1, e2, e3, not_true_eq_false, not_false_eq_true, and_self, true_and, and_true, ↓reduceIte, Int.reduceEq, Int.reduceLT, Int.reduceLE, Int.reduceNeg]
theorem tx_code_r (c : Int) (h0 : 0 ≤ c) (h1 : c < 65536) : -1 ≤ tx_code c ∧ tx_code c ≤ 26 := by
  unfold tx_code
  split
  · omega
  · split <;> omega
theorem c_append (c : Int) (L : Nat) (Z : Nat → Nat → Int) (W : Nat → Nat) (h0 : 0 ≤ c) (h1 : c < 65536) (h2 : 0 ≤ Z 1 1) (h3 : Z 1 1 < 60) : pm_D (58, 0, [.ref 1, .int (pm_J c)], [], pm_hp L Z W) = some (none, pm_hp L (pm_up (pm_up Z 2 (Z 1 1).toNat (tx_code c)) 1 1 (Z 1 1 + 1)) W) := by
  simp (disch := first | assumption | decide +kernel | omega | (split <;> omega)) only [q_58_0, q_58_1, q_58_4, q_58_6, q_58_9, q_58_10, q_58_13, q_58_14, q_58_17, q_58_18, q_58_21, q_58_22, q_58_23, q_58_24, q_58_27, q_58_28, q_58_29, q_58_32, c_codeOf, pm_some, Option.toList_some, Option.toList_none, List.cons_append, List.nil_append, pm_i0, pm_i1, Nat.reduceAdd, Nat.reduceMul, Int.toNat_natCast, pm_up_ne, h3, not_true_eq_false, not_false_eq_true, and_self, true_and, and_true, ↓reduceIte, Int.reduceEq, Int.reduceLT, Int.reduceLE, Int.reduceNeg]

theorem op_setDay : Op_setDay := by
  intro T L Z W hI hT0 hT a b ha hb
  obtain ⟨⟨⟨a1, a2, a3, a4, a5, a6, a7, a8, a9, a10, a11⟩, ⟨⟨w1, w2, w3, w4, w5, w6⟩, ⟨w7, w8, w9⟩, w10⟩, ⟨⟨f1, f2, f3⟩, f4⟩, hms, hun, hco, hsh, htk⟩, htx, hbk, hon⟩ := id hI
  have a8' : 0 ≤ Z 46 4 := by omega
  have a9' : Z 46 4 ≤ 10 := by omega
  have a2' : 0 ≤ Z 46 2 := by omega
  have a3' : Z 46 2 ≤ 8 := by omega
  have a2'' : 0 ≤ Z 190 0 := by omega
  obtain ⟨⟨ra, rw_, rf, rm, ru, rc, rs, rt⟩, -⟩ := id hI
  by_cases h1 : 1 ≤ a ∧ a ≤ 10000
  · by_cases h2 : 1 ≤ b ∧ b ≤ a
    · refine ⟨if Z 190 1 = a ∧ Z 190 2 = b then 0 else 1, pm_up (pm_up Z 47 0 a) 47 1 b, W, pm_up (pm_up (pm_up (pm_up Z 47 0 a) 47 1 b) 190 1 a) 190 2 b, W, by split <;> decide, ?_, ?_, Inv.up ?_, (by simp (disch := omega) only [pm_up_row]), (by simp (disch := omega) only [pm_up_row])⟩
      · have r0 : pm_r (Z 47 0) := by rw [show Z 47 0 = Z 190 1 from w1]; omega
        have r1 : pm_r (Z 47 1) := by rw [show Z 47 1 = Z 190 2 from w2]; omega
        have v1 : Z 47 0 = Z 190 1 := w1
        have v2 : Z 47 1 = Z 190 2 := w2
        simp (disch := first | assumption | decide +kernel | omega | (split <;> omega)) only [q_76_0, q_76_1, q_76_2, q_76_5, q_76_8, q_76_11, q_76_12, q_76_13, q_76_14, q_76_17, q_76_20, q_76_22, q_76_23, q_76_24, q_76_27, q_76_30, q_76_31, q_76_32, q_76_35, q_76_38, q_76_39, q_76_42, q_76_43, c_isWithin, c_changeDay, pm_some, Option.toList_some, Option.toList_none, List.cons_append, List.nil_append, pm_i0, pm_i1, Nat.reduceAdd, Nat.reduceMul, Int.toNat_natCast, h1, h2, not_true_eq_false, not_false_eq_true, and_self, true_and, and_true, ↓reduceIte, Int.reduceEq, Int.reduceLT, Int.reduceLE, Int.reduceNeg]
        simp only [v1, v2]
        by_cases e : Z 190 1 = a ∧ Z 190 2 = b
        · simp only [e, not_true_eq_false, not_false_eq_true, and_self, true_and, and_true, ↓reduceIte, Int.reduceEq, Int.reduceLT, Int.reduceLE, Int.reduceNeg]
        · simp only [e, not_true_eq_false, not_false_eq_true, and_self, true_and, and_true, ↓reduceIte, Int.reduceEq, Int.reduceLT, Int.reduceLE, Int.reduceNeg]
      · have v1 : pm_up (pm_up Z 47 0 a) 47 1 b 190 = Z 190 := (by simp (disch := omega) only [pm_up_row])
        simp (disch := first | assumption | decide +kernel | omega | (split <;> omega)) only [q_110_0, q_110_1, q_110_2, q_110_5, q_110_8, q_110_11, q_110_12, q_110_13, q_110_14, q_110_17, q_110_20, q_110_22, q_110_23, q_110_24, q_110_27, q_110_28, q_110_31, q_110_32, q_110_35, q_110_36, q_110_39, q_110_40, q_110_43, q_110_44, q_110_45, q_110_46, q_110_47, q_110_50, q_110_51, q_110_52, q_110_55, q_110_56, c_in, pm_some, Option.toList_some, Option.toList_none, List.cons_append, List.nil_append, pm_i0, pm_i1, Nat.reduceAdd, Nat.reduceMul, Int.toNat_natCast, h1, h2, not_true_eq_false, not_false_eq_true, and_self, true_and, and_true, ↓reduceIte, Int.reduceEq, Int.reduceLT, Int.reduceLE, Int.reduceNeg, v1]
        by_cases e : Z 190 1 = a
        · by_cases e' : Z 190 2 = b
          · simp only [e, e', not_true_eq_false, not_false_eq_true, and_self, true_and, and_true, ↓reduceIte, Int.reduceEq, Int.reduceLT, Int.reduceLE, Int.reduceNeg]
          · simp only [e, e', not_true_eq_false, not_false_eq_true, and_self, true_and, and_true, ↓reduceIte, Int.reduceEq, Int.reduceLT, Int.reduceLE, Int.reduceNeg]
        · simp only [e, not_true_eq_false, not_false_eq_true, and_self, true_and, and_true, ↓reduceIte, Int.reduceEq, Int.reduceLT, Int.reduceLE, Int.reduceNeg, false_and]
      · refine ⟨⟨lr_a_congr ra (by simp [pm_up]) (by simp [pm_up]) (by simp [pm_up]) (by simp [pm_up]) (by simp [pm_up]) (by simp [pm_up]) (by simp [pm_up]), ⟨⟨(by simp [pm_up]), (by simp [pm_up]), ?_, ?_, ?_, ?_⟩, ⟨?_, ?_, ?_⟩, ?_⟩, lr_f_congr rf (by simp (disch := omega) only [pm_up_row]) (by simp (disch := omega) only [pm_up_row]) (by simp (disch := omega) only [pm_up_row]) (by simp (disch := omega) only [pm_up_row]) (by simp [pm_up]) (by simp (disch := omega) only [pm_up_row]) (by simp (disch := omega) only [pm_up_row]) (by simp (disch := omega) only [pm_up_row]), ?_, lr_u_congr ru (by simp [pm_up]) (by simp (disch := omega) only [pm_up_row]), lr_c_congr rc (fun l hl => (by simp (disch := omega) only [pm_up_row])) (fun q _ _ => by simp [pm_up]), lr_s_congr rs (by simp (disch := omega) only [pm_up_row]) (by simp [pm_up]) (fun q _ _ => by simp [pm_up]), lr_t_congr rt (by simp [pm_up]) (by simp (disch := omega) only [pm_up_row]) (by simp (disch := omega) only [pm_up_row]) (by simp [pm_up]) (by simp [pm_up]) (by simp (disch := omega) only [pm_up_row]) (by simp (disch := omega) only [pm_up_row]) (by simp (disch := omega) only [pm_up_row]) (by simp (disch := omega) only [pm_up_row])⟩, tx_congr htx (by simp [pm_up]) (by simp (disch := omega) only [pm_up_row]) (by simp [pm_up]) (by simp (disch := omega) only [pm_up_row]), bk_congr hbk (by simp [pm_up]) (fun b _ _ => (by simp (disch := omega) only [pm_up_row])) (by simp [pm_up]) (by simp (disch := omega) only [pm_up_row]) (by simp (disch := omega) only [pm_up_row]) (by simp (disch := omega) only [pm_up_row]) (by simp (disch := omega) only [pm_up_row]), ?_⟩
        · simp [pm_up]; omega
        · simp [pm_up]; omega
        · simp [pm_up]; omega
        · simp [pm_up]; omega
        · have := w7
          simpa [pm_up] using this
        · simpa [pm_up] using w8
        · simpa [pm_up] using w9
        · intro i hi
          have hi : (i : Int) < Z 190 5 := by simpa [pm_up] using hi
          have := w10 i hi
          simpa [pm_up] using this
        · intro i hi
          have hi : (i : Int) < Z 190 22 := by simpa [pm_up] using hi
          exact lm_congr (rm i hi) (by simp (disch := omega) only [pm_up_row]) (by simp (disch := omega) only [pm_up_row]) (by simp (disch := omega) only [pm_up_row]) (by simp (disch := omega) only [pm_up_row]) (by simp (disch := omega) only [pm_up_row]) (by simp [pm_up]) a3 (by simp [pm_up]) (by simp [pm_up]) (by simp [pm_up]) (by simp [pm_up]) (fun q _ => by simp [pm_up])
        · simpa [pm_up] using hon
    · refine Op.same hI (-3) (by decide) ?_ ?_
      · simp (disch := first | assumption | decide +kernel | omega | (split <;> omega)) only [q_76_0, q_76_1, q_76_2, q_76_5, q_76_8, q_76_11, q_76_12, q_76_13, q_76_14, q_76_17, q_76_20, q_76_22, q_76_23, q_76_24, q_76_27, q_76_30, q_76_31, q_76_32, q_76_35, q_76_38, q_76_39, q_76_42, q_76_43, c_isWithin, pm_some, Option.toList_some, Option.toList_none, List.cons_append, List.nil_append, pm_i0, pm_i1, Nat.reduceAdd, Nat.reduceMul, Int.toNat_natCast, h1, h2, not_true_eq_false, not_false_eq_true, and_self, true_and, and_true, ↓reduceIte, Int.reduceEq, Int.reduceLT, Int.reduceLE, Int.reduceNeg]
      · simp (disch := first | assumption | decide +kernel | omega | (split <;> omega)) only [q_110_0, q_110_1, q_110_2, q_110_5, q_110_8, q_110_11, q_110_12, q_110_13, q_110_14, q_110_17, q_110_20, q_110_22, q_110_23, q_110_24, q_110_27, q_110_28, q_110_31, q_110_32, q_110_35, q_110_36, q_110_39, q_110_40, q_110_43, q_110_44, q_110_45, q_110_46, q_110_47, q_110_50, q_110_51, q_110_52, q_110_55, q_110_56, c_in, pm_some, Option.toList_some, Option.toList_none, List.cons_append, List.nil_append, pm_i0, pm_i1, Nat.reduceAdd, Nat.reduceMul, Int.toNat_natCast, h1, h2, not_true_eq_false, not_false_eq_true, and_self, true_and, and_true, ↓reduceIte, Int.reduceEq, Int.reduceLT, Int.reduceLE, Int.reduceNeg]
  · refine Op.same hI (-3) (by decide) ?_ ?_
    · simp (disch := first | assumption | decide +kernel | omega | (split <;> omega)) only [q_76_0, q_76_1, q_76_2, q_76_5, q_76_8, q_76_11, q_76_12, q_76_13, q_76_14, q_76_17, q_76_20, q_76_22, q_76_23, q_76_24, q_76_27, q_76_30, q_76_31, q_76_32, q_76_35, q_76_38, q_76_39, q_76_42, q_76_43, c_isWithin, pm_some, Option.toList_some, Option.toList_none, List.cons_append, List.nil_append, pm_i0, pm_i1, Nat.reduceAdd, Nat.reduceMul, Int.toNat_natCast, h1, not_true_eq_false, not_false_eq_true, and_self, true_and, and_true, ↓reduceIte, Int.reduceEq, Int.reduceLT, Int.reduceLE, Int.reduceNeg]
    · simp (disch := first | assumption | decide +kernel | omega | (split <;> omega)) only [q_110_0, q_110_1, q_110_2, q_110_5, q_110_8, q_110_11, q_110_12, q_110_13, q_110_14, q_110_17, q_110_20, q_110_22, q_110_23, q_110_24, q_110_27, q_110_28, q_110_31, q_110_32, q_110_35, q_110_36, q_110_39, q_110_40, q_110_43, q_110_44, q_110_45, q_110_46, q_110_47, q_110_50, q_110_51, q_110_52, q_110_55, q_110_56, c_in, pm_some, Option.toList_some, Option.toList_none, List.cons_append, List.nil_append, pm_i0, pm_i1, Nat.reduceAdd, Nat.reduceMul, Int.toNat_natCast, h1, not_true_eq_false, not_false_eq_true, and_self, true_and, and_true, ↓reduceIte, Int.reduceEq, Int.reduceLT, Int.reduceLE, Int.reduceNeg]

theorem op_addFog : Op_addFog := by
  intro T L Z W hI hT0 hT a b c ha hb hc
  obtain ⟨⟨⟨a1, a2, a3, a4, a5, a6, a7, a8, a9, a10, a11⟩, ⟨⟨w1, w2, w3, w4, w5, w6⟩, ⟨w7, w8, w9⟩, w10⟩, ⟨⟨f1, f2, f3⟩, f4⟩, hms, hun, hco, hsh, htk⟩, htx, hbk, hon⟩ := id hI
  have a8' : 0 ≤ Z 46 4 := by omega
  have a9' : Z 46 4 ≤ 10 := by omega
  have a2' : 0 ≤ Z 46 2 := by omega
  have a3' : Z 46 2 ≤ 8 := by omega
  have a2'' : 0 ≤ Z 190 0 := by omega
  obtain ⟨⟨ra, rw_, rf, rm, ru, rc, rs, rt⟩, -⟩ := id hI
  have w7' : Z 47 5 = Z 190 5 := w7
  by_cases hl : 0 ≤ a ∧ a < Z 190 0 - 1
  · by_cases h1 : 0 ≤ b ∧ b ≤ 100000
    · by_cases h2 : b ≤ c ∧ c ≤ 100000
      · by_cases h3 : Z 190 5 < 12
        · have h3' : Z 47 5 < 12 := by omega
          have h30 : 0 ≤ Z 47 5 := by omega
          have h3n : ¬ Z 190 5 = 12 := by omega
          refine ⟨Z 190 5 + 1, pm_up (pm_up (pm_up (pm_up Z 48 (Z 190 5).toNat a) 49 (Z 190 5).toNat b) 50 (Z 190 5).toNat c) 47 5 (Z 190 5 + 1), W, pm_up (pm_up (pm_up (pm_up (pm_up (pm_up (pm_up (pm_up Z 48 (Z 190 5).toNat a) 49 (Z 190 5).toNat b) 50 (Z 190 5).toNat c) 47 5 (Z 190 5 + 1)) 193 (Z 190 5).toNat a) 194 (Z 190 5).toNat b) 195 (Z 190 5).toNat c) 190 5 (Z 190 5 + 1), W, by omega, ?_, ?_, Inv.up ?_, (by simp (disch := omega) only [pm_up_row]), (by simp (disch := omega) only [pm_up_row])⟩
          · simp (disch := first | assumption | decide +kernel | omega | (split <;> omega)) only [q_77_0, q_77_1, q_77_4, q_77_5, q_77_8, q_77_11, q_77_12, q_77_13, q_77_14, q_77_15, q_77_17, q_77_20, q_77_23, q_77_24, q_77_25, q_77_27, q_77_30, q_77_33, q_77_35, q_77_36, q_77_37, q_77_40, q_77_43, q_77_46, q_77_48, q_77_51, q_77_53, q_77_54, q_77_55, q_77_58, q_77_61, q_77_62, q_77_63, q_77_64, q_77_67, q_77_68, q_77_71, q_77_74, q_77_77, c_hasLink, c_isWithin, c_takeFog, pm_some, Option.toList_some, Option.toList_none, List.cons_append, List.nil_append, pm_i0, pm_i1, Nat.reduceAdd, Nat.reduceMul, Int.toNat_natCast, a1, w7', hl, h1, h2, h3, not_true_eq_false, not_false_eq_true, and_self, true_and, and_true, ↓reduceIte, Int.reduceEq, Int.reduceLT, Int.reduceLE, Int.reduceNeg, pm_up_same]
          · have z0 : (pm_up (pm_up (pm_up (pm_up Z 48 (Z 190 5).toNat a) 49 (Z 190 5).toNat b) 50 (Z 190 5).toNat c) 47 5 (Z 190 5 + 1)) 190 0 = Z 190 0 := (by simp [pm_up])
            have z5 : (pm_up (pm_up (pm_up (pm_up Z 48 (Z 190 5).toNat a) 49 (Z 190 5).toNat b) 50 (Z 190 5).toNat c) 47 5 (Z 190 5 + 1)) 190 5 = Z 190 5 := (by simp [pm_up])
            generalize pm_up (pm_up (pm_up (pm_up Z 48 (Z 190 5).toNat a) 49 (Z 190 5).toNat b) 50 (Z 190 5).toNat c) 47 5 (Z 190 5 + 1) = Z1 at z0 z5 ⊢
            have z0' : 0 ≤ Z1 190 0 := by omega
            have z0'' : Z1 190 0 ≤ 8 := by omega
            simp (disch := first | assumption | decide +kernel | omega | (split <;> omega)) only [q_111_0, q_111_1, q_111_2, q_111_5, q_111_8, q_111_9, q_111_10, q_111_11, q_111_12, q_111_14, q_111_17, q_111_20, q_111_21, q_111_22, q_111_24, q_111_27, q_111_30, q_111_32, q_111_33, q_111_34, q_111_37, q_111_39, q_111_42, q_111_44, q_111_45, q_111_46, q_111_49, q_111_50, q_111_53, q_111_54, q_111_55, q_111_56, q_111_59, q_111_60, q_111_63, q_111_64, q_111_65, q_111_66, q_111_69, q_111_70, q_111_73, q_111_74, q_111_75, q_111_76, q_111_77, q_111_80, q_111_81, q_111_82, q_111_85, q_111_86, q_111_89, c_noLink, c_in, pm_some, Option.toList_some, Option.toList_none, List.cons_append, List.nil_append, pm_i0, pm_i1, Nat.reduceAdd, Nat.reduceMul, Int.toNat_natCast, z0, z5, hl, h1, h2, h3n, not_true_eq_false, not_false_eq_true, and_self, true_and, and_true, ↓reduceIte, Int.reduceEq, Int.reduceLT, Int.reduceLE, Int.reduceNeg, pm_up_ne, pm_up_same]
          · refine ⟨⟨lr_a_congr ra (by simp [pm_up]) (by simp [pm_up]) (by simp [pm_up]) (by simp [pm_up]) (by simp [pm_up]) (by simp [pm_up]) (by simp [pm_up]), ⟨⟨?_, ?_, ?_, ?_, ?_, ?_⟩, ⟨(by simp [pm_up]), ?_, ?_⟩, ?_⟩, lr_f_congr rf (by simp (disch := omega) only [pm_up_row]) (by simp (disch := omega) only [pm_up_row]) (by simp (disch := omega) only [pm_up_row]) (by simp (disch := omega) only [pm_up_row]) (by simp [pm_up]) (by simp (disch := omega) only [pm_up_row]) (by simp (disch := omega) only [pm_up_row]) (by simp (disch := omega) only [pm_up_row]), ?_, lr_u_congr ru (by simp [pm_up]) (by simp (disch := omega) only [pm_up_row]), lr_c_congr rc (fun l hl => (by simp (disch := omega) only [pm_up_row])) (fun q _ _ => by simp [pm_up]), lr_s_congr rs (by simp (disch := omega) only [pm_up_row]) (by simp [pm_up]) (fun q _ _ => by simp [pm_up]), lr_t_congr rt (by simp [pm_up]) (by simp (disch := omega) only [pm_up_row]) (by simp (disch := omega) only [pm_up_row]) (by simp [pm_up]) (by simp [pm_up]) (by simp (disch := omega) only [pm_up_row]) (by simp (disch := omega) only [pm_up_row]) (by simp (disch := omega) only [pm_up_row]) (by simp (disch := omega) only [pm_up_row])⟩, tx_congr htx (by simp [pm_up]) (by simp (disch := omega) only [pm_up_row]) (by simp [pm_up]) (by simp (disch := omega) only [pm_up_row]), bk_congr hbk (by simp [pm_up]) (fun b _ _ => (by simp (disch := omega) only [pm_up_row])) (by simp [pm_up]) (by simp (disch := omega) only [pm_up_row]) (by simp (disch := omega) only [pm_up_row]) (by simp (disch := omega) only [pm_up_row]) (by simp (disch := omega) only [pm_up_row]), ?_⟩
            · simpa [pm_up] using w1
            · simpa [pm_up] using w2
            · simpa [pm_up] using w3
            · simpa [pm_up] using w4
            · simpa [pm_up] using w5
            · simpa [pm_up] using w6
            · simp [pm_up]; omega
            · simp [pm_up]; omega
            · intro i hi
              have hi : (i : Int) < Z 190 5 + 1 := by simpa [pm_up] using hi
              by_cases hin : i = (Z 190 5).toNat
              · subst hin
                simp [pm_up]
                omega
              · have := w10 i (by omega)
                simpa [pm_up, hin] using this
            · intro i hi
              have hi : (i : Int) < Z 190 22 := by simpa [pm_up] using hi
              exact lm_congr (rm i hi) (by simp (disch := omega) only [pm_up_row]) (by simp (disch := omega) only [pm_up_row]) (by simp (disch := omega) only [pm_up_row]) (by simp (disch := omega) only [pm_up_row]) (by simp (disch := omega) only [pm_up_row]) (by simp [pm_up]) a3 (by simp [pm_up]) (by simp [pm_up]) (by simp [pm_up]) (by simp [pm_up]) (fun q _ => by simp [pm_up])
            · simpa [pm_up] using hon
        · have h3e : Z 190 5 = 12 := by omega
          have h3' : ¬ Z 47 5 < 12 := by omega
          refine Op.same hI (-5) (by decide) ?_ ?_
          · simp (disch := first | assumption | decide +kernel | omega | (split <;> omega)) only [q_77_0, q_77_1, q_77_4, q_77_5, q_77_8, q_77_11, q_77_12, q_77_13, q_77_14, q_77_15, q_77_17, q_77_20, q_77_23, q_77_24, q_77_25, q_77_27, q_77_30, q_77_33, q_77_35, q_77_36, q_77_37, q_77_40, q_77_43, q_77_46, q_77_48, q_77_51, q_77_53, q_77_54, q_77_55, q_77_58, q_77_61, q_77_62, q_77_63, q_77_64, q_77_67, q_77_68, q_77_71, q_77_74, q_77_77, c_hasLink, c_isWithin, pm_some, Option.toList_some, Option.toList_none, List.cons_append, List.nil_append, pm_i0, pm_i1, Nat.reduceAdd, Nat.reduceMul, Int.toNat_natCast, a1, w7', hl, h1, h2, h3, not_true_eq_false, not_false_eq_true, and_self, true_and, and_true, ↓reduceIte, Int.reduceEq, Int.reduceLT, Int.reduceLE, Int.reduceNeg]
          · simp (disch := first | assumption | decide +kernel | omega | (split <;> omega)) only [q_111_0, q_111_1, q_111_2, q_111_5, q_111_8, q_111_9, q_111_10, q_111_11, q_111_12, q_111_14, q_111_17, q_111_20, q_111_21, q_111_22, q_111_24, q_111_27, q_111_30, q_111_32, q_111_33, q_111_34, q_111_37, q_111_39, q_111_42, q_111_44, q_111_45, q_111_46, q_111_49, q_111_50, q_111_53, q_111_54, q_111_55, q_111_56, q_111_59, q_111_60, q_111_63, q_111_64, q_111_65, q_111_66, q_111_69, q_111_70, q_111_73, q_111_74, q_111_75, q_111_76, q_111_77, q_111_80, q_111_81, q_111_82, q_111_85, q_111_86, q_111_89, c_noLink, c_in, pm_some, Option.toList_some, Option.toList_none, List.cons_append, List.nil_append, pm_i0, pm_i1, Nat.reduceAdd, Nat.reduceMul, Int.toNat_natCast, hl, h1, h2, h3e, not_true_eq_false, not_false_eq_true, and_self, true_and, and_true, ↓reduceIte, Int.reduceEq, Int.reduceLT, Int.reduceLE, Int.reduceNeg]
      · refine Op.same hI (-3) (by decide) ?_ ?_
        · simp (disch := first | assumption | decide +kernel | omega | (split <;> omega)) only [q_77_0, q_77_1, q_77_4, q_77_5, q_77_8, q_77_11, q_77_12, q_77_13, q_77_14, q_77_15, q_77_17, q_77_20, q_77_23, q_77_24, q_77_25, q_77_27, q_77_30, q_77_33, q_77_35, q_77_36, q_77_37, q_77_40, q_77_43, q_77_46, q_77_48, q_77_51, q_77_53, q_77_54, q_77_55, q_77_58, q_77_61, q_77_62, q_77_63, q_77_64, q_77_67, q_77_68, q_77_71, q_77_74, q_77_77, c_hasLink, c_isWithin, pm_some, Option.toList_some, Option.toList_none, List.cons_append, List.nil_append, pm_i0, pm_i1, Nat.reduceAdd, Nat.reduceMul, Int.toNat_natCast, a1, hl, h1, h2, not_true_eq_false, not_false_eq_true, and_self, true_and, and_true, ↓reduceIte, Int.reduceEq, Int.reduceLT, Int.reduceLE, Int.reduceNeg]
        · simp (disch := first | assumption | decide +kernel | omega | (split <;> omega)) only [q_111_0, q_111_1, q_111_2, q_111_5, q_111_8, q_111_9, q_111_10, q_111_11, q_111_12, q_111_14, q_111_17, q_111_20, q_111_21, q_111_22, q_111_24, q_111_27, q_111_30, q_111_32, q_111_33, q_111_34, q_111_37, q_111_39, q_111_42, q_111_44, q_111_45, q_111_46, q_111_49, q_111_50, q_111_53, q_111_54, q_111_55, q_111_56, q_111_59, q_111_60, q_111_63, q_111_64, q_111_65, q_111_66, q_111_69, q_111_70, q_111_73, q_111_74, q_111_75, q_111_76, q_111_77, q_111_80, q_111_81, q_111_82, q_111_85, q_111_86, q_111_89, c_noLink, c_in, pm_some, Option.toList_some, Option.toList_none, List.cons_append, List.nil_append, pm_i0, pm_i1, Nat.reduceAdd, Nat.reduceMul, Int.toNat_natCast, hl, h1, h2, not_true_eq_false, not_false_eq_true, and_self, true_and, and_true, ↓reduceIte, Int.reduceEq, Int.reduceLT, Int.reduceLE, Int.reduceNeg]
    · refine Op.same hI (-3) (by decide) ?_ ?_
      · simp (disch := first | assumption | decide +kernel | omega | (split <;> omega)) only [q_77_0, q_77_1, q_77_4, q_77_5, q_77_8, q_77_11, q_77_12, q_77_13, q_77_14, q_77_15, q_77_17, q_77_20, q_77_23, q_77_24, q_77_25, q_77_27, q_77_30, q_77_33, q_77_35, q_77_36, q_77_37, q_77_40, q_77_43, q_77_46, q_77_48, q_77_51, q_77_53, q_77_54, q_77_55, q_77_58, q_77_61, q_77_62, q_77_63, q_77_64, q_77_67, q_77_68, q_77_71, q_77_74, q_77_77, c_hasLink, c_isWithin, pm_some, Option.toList_some, Option.toList_none, List.cons_append, List.nil_append, pm_i0, pm_i1, Nat.reduceAdd, Nat.reduceMul, Int.toNat_natCast, a1, hl, h1, not_true_eq_false, not_false_eq_true, and_self, true_and, and_true, ↓reduceIte, Int.reduceEq, Int.reduceLT, Int.reduceLE, Int.reduceNeg]
      · simp (disch := first | assumption | decide +kernel | omega | (split <;> omega)) only [q_111_0, q_111_1, q_111_2, q_111_5, q_111_8, q_111_9, q_111_10, q_111_11, q_111_12, q_111_14, q_111_17, q_111_20, q_111_21, q_111_22, q_111_24, q_111_27, q_111_30, q_111_32, q_111_33, q_111_34, q_111_37, q_111_39, q_111_42, q_111_44, q_111_45, q_111_46, q_111_49, q_111_50, q_111_53, q_111_54, q_111_55, q_111_56, q_111_59, q_111_60, q_111_63, q_111_64, q_111_65, q_111_66, q_111_69, q_111_70, q_111_73, q_111_74, q_111_75, q_111_76, q_111_77, q_111_80, q_111_81, q_111_82, q_111_85, q_111_86, q_111_89, c_noLink, c_in, pm_some, Option.toList_some, Option.toList_none, List.cons_append, List.nil_append, pm_i0, pm_i1, Nat.reduceAdd, Nat.reduceMul, Int.toNat_natCast, hl, h1, not_true_eq_false, not_false_eq_true, and_self, true_and, and_true, ↓reduceIte, Int.reduceEq, Int.reduceLT, Int.reduceLE, Int.reduceNeg]
  · refine Op.same hI (-1) (by decide) ?_ ?_
    · simp (disch := first | assumption | decide +kernel | omega | (split <;> omega)) only [q_77_0, q_77_1, q_77_4, q_77_5, q_77_8, q_77_11, q_77_12, q_77_13, q_77_14, q_77_15, q_77_17, q_77_20, q_77_23, q_77_24, q_77_25, q_77_27, q_77_30, q_77_33, q_77_35, q_77_36, q_77_37, q_77_40, q_77_43, q_77_46, q_77_48, q_77_51, q_77_53, q_77_54, q_77_55, q_77_58, q_77_61, q_77_62, q_77_63, q_77_64, q_77_67, q_77_68, q_77_71, q_77_74, q_77_77, c_hasLink, pm_some, Option.toList_some, Option.toList_none, List.cons_append, List.nil_append, pm_i0, pm_i1, Nat.reduceAdd, Nat.reduceMul, Int.toNat_natCast, a1, hl, not_true_eq_false, not_false_eq_true, and_self, true_and, and_true, ↓reduceIte, Int.reduceEq, Int.reduceLT, Int.reduceLE, Int.reduceNeg]
    · simp (disch := first | assumption | decide +kernel | omega | (split <;> omega)) only [q_111_0, q_111_1, q_111_2, q_111_5, q_111_8, q_111_9, q_111_10, q_111_11, q_111_12, q_111_14, q_111_17, q_111_20, q_111_21, q_111_22, q_111_24, q_111_27, q_111_30, q_111_32, q_111_33, q_111_34, q_111_37, q_111_39, q_111_42, q_111_44, q_111_45, q_111_46, q_111_49, q_111_50, q_111_53, q_111_54, q_111_55, q_111_56, q_111_59, q_111_60, q_111_63, q_111_64, q_111_65, q_111_66, q_111_69, q_111_70, q_111_73, q_111_74, q_111_75, q_111_76, q_111_77, q_111_80, q_111_81, q_111_82, q_111_85, q_111_86, q_111_89, c_noLink, pm_some, Option.toList_some, Option.toList_none, List.cons_append, List.nil_append, pm_i0, pm_i1, Nat.reduceAdd, Nat.reduceMul, Int.toNat_natCast, hl, not_true_eq_false, not_false_eq_true, and_self, true_and, and_true, ↓reduceIte, Int.reduceEq, Int.reduceLT, Int.reduceLE, Int.reduceNeg]

theorem op_type : Op_type := by
  intro T L Z W hI hT0 hT c hc
  obtain ⟨⟨⟨a1, a2, a3, a4, a5, a6, a7, a8, a9, a10, a11⟩, ⟨⟨w1, w2, w3, w4, w5, w6⟩, ⟨w7, w8, w9⟩, w10⟩, ⟨⟨f1, f2, f3⟩, f4⟩, hms, hun, hco, hsh, htk⟩, htx, hbk, hon⟩ := id hI
  have a8' : 0 ≤ Z 46 4 := by omega
  have a9' : Z 46 4 ≤ 10 := by omega
  have a2' : 0 ≤ Z 46 2 := by omega
  have a3' : Z 46 2 ≤ 8 := by omega
  have a2'' : 0 ≤ Z 190 0 := by omega
  obtain ⟨t1, t2, t3, t4⟩ := id htx
  by_cases h : Z 190 13 < 60
  · have h' : Z 1 1 < 60 := by omega
    have h0 : 0 ≤ Z 1 1 := by omega
    have hn : ¬ Z 190 13 = 60 := by omega
    refine ⟨Z 190 13 + 1, pm_up (pm_up Z 2 (Z 190 13).toNat (tx_code c)) 1 1 (Z 190 13 + 1), W, pm_up (pm_up (pm_up (pm_up Z 2 (Z 190 13).toNat (tx_code c)) 1 1 (Z 190 13 + 1)) 199 (Z 190 13).toNat c) 190 13 (Z 190 13 + 1), W, by omega, ?_, ?_, Inv.up ?_, (by simp (disch := omega) only [pm_up_row]), (by simp (disch := omega) only [pm_up_row])⟩
    · simp (disch := first | assumption | decide +kernel | omega | (split <;> omega)) only [q_81_0, q_81_1, q_81_4, q_81_7, q_81_9, q_81_12, q_81_14, q_81_15, q_81_16, q_81_19, q_81_20, q_81_23, q_81_24, q_81_27, q_81_30, c_append, pm_some, Option.toList_some, Option.toList_none, List.cons_append, List.nil_append, pm_i0, pm_i1, Nat.reduceAdd, Nat.reduceMul, Int.toNat_natCast, t1, h, not_true_eq_false, not_false_eq_true, and_self, true_and, and_true, ↓reduceIte, Int.reduceEq, Int.reduceLT, Int.reduceLE, Int.reduceNeg, pm_up_same]
    · simp (disch := first | assumption | decide +kernel | omega | (split <;> omega)) only [q_117_0, q_117_1, q_117_4, q_117_6, q_117_9, q_117_11, q_117_12, q_117_13, q_117_16, q_117_17, q_117_20, q_117_21, q_117_22, q_117_23, q_117_24, q_117_27, q_117_28, q_117_29, q_117_32, q_117_33, q_117_36, pm_some, Option.toList_some, Option.toList_none, List.cons_append, List.nil_append, pm_i0, pm_i1, Nat.reduceAdd, Nat.reduceMul, Int.toNat_natCast, hn, not_true_eq_false, not_false_eq_true, and_self, true_and, and_true, ↓reduceIte, Int.reduceEq, Int.reduceLT, Int.reduceLE, Int.reduceNeg, pm_up_ne, pm_up_same]
    · refine ⟨lr_congr hI.1 (fun b _ _ => (by simp (disch := omega) only [pm_up_row])) (by simp [pm_up]) (by simp [pm_up]) (by simp [pm_up]) (by simp [pm_up]) (by simp [pm_up]) (by simp [pm_up]) (by simp (disch := omega) only [pm_up_row]) (fun b _ _ => (by simp (disch := omega) only [pm_up_row])) (fun b _ _ => (by simp (disch := omega) only [pm_up_row])), ⟨(by simp [pm_up]), ?_, ?_, ?_⟩, bk_congr hbk (by simp [pm_up]) (fun b _ _ => (by simp (disch := omega) only [pm_up_row])) (by simp [pm_up]) (by simp (disch := omega) only [pm_up_row]) (by simp (disch := omega) only [pm_up_row]) (by simp (disch := omega) only [pm_up_row]) (by simp (disch := omega) only [pm_up_row]), ?_⟩
      · simp [pm_up]; omega
      · simp [pm_up]; omega
      · intro i hi
        have hi : (i : Int) < Z 190 13 + 1 := by simpa [pm_up] using hi
        by_cases hin : i = (Z 190 13).toNat
        · subst hin
          simp [pm_up]
          omega
        · have := t4 i (by omega)
          simpa [pm_up, hin] using this
      · simpa [pm_up] using hon
  · have he : Z 190 13 = 60 := by omega
    have h' : ¬ Z 1 1 < 60 := by omega
    refine Op.same hI (-5) (by decide) ?_ ?_
    · simp (disch := first | assumption | decide +kernel | omega | (split <;> omega)) only [q_81_0, q_81_1, q_81_4, q_81_7, q_81_9, q_81_12, q_81_14, q_81_15, q_81_16, q_81_19, q_81_20, q_81_23, q_81_24, q_81_27, q_81_30, pm_some, Option.toList_some, Option.toList_none, List.cons_append, List.nil_append, pm_i0, pm_i1, Nat.reduceAdd, Nat.reduceMul, Int.toNat_natCast, t1, h, not_true_eq_false, not_false_eq_true, and_self, true_and, and_true, ↓reduceIte, Int.reduceEq, Int.reduceLT, Int.reduceLE, Int.reduceNeg]
    · simp (disch := first | assumption | decide +kernel | omega | (split <;> omega)) only [q_117_0, q_117_1, q_117_4, q_117_6, q_117_9, q_117_11, q_117_12, q_117_13, q_117_16, q_117_17, q_117_20, q_117_21, q_117_22, q_117_23, q_117_24, q_117_27, q_117_28, q_117_29, q_117_32, q_117_33, q_117_36, pm_some, Option.toList_some, Option.toList_none, List.cons_append, List.nil_append, pm_i0, pm_i1, Nat.reduceAdd, Nat.reduceMul, Int.toNat_natCast, he, not_true_eq_false, not_false_eq_true, and_self, true_and, and_true, ↓reduceIte, Int.reduceEq, Int.reduceLT, Int.reduceLE, Int.reduceNeg]
theorem op_clearText : Op_clearText := by
  intro T L Z W hI hT0 hT
  obtain ⟨⟨⟨a1, a2, a3, a4, a5, a6, a7, a8, a9, a10, a11⟩, ⟨⟨w1, w2, w3, w4, w5, w6⟩, ⟨w7, w8, w9⟩, w10⟩, ⟨⟨f1, f2, f3⟩, f4⟩, hms, hun, hco, hsh, htk⟩, htx, hbk, hon⟩ := id hI
  have a8' : 0 ≤ Z 46 4 := by omega
  have a9' : Z 46 4 ≤ 10 := by omega
  have a2' : 0 ≤ Z 46 2 := by omega
  have a3' : Z 46 2 ≤ 8 := by omega
  have a2'' : 0 ≤ Z 190 0 := by omega
  obtain ⟨t1, t2, t3, t4⟩ := id htx
  refine ⟨Z 190 13, pm_up Z 1 1 0, W, pm_up (pm_up Z 1 1 0) 190 13 0, W, by omega, ?_, ?_, Inv.up ?_, (by simp (disch := omega) only [pm_up_row]), (by simp (disch := omega) only [pm_up_row])⟩
  · simp (disch := first | assumption | decide +kernel | omega | (split <;> omega)) only [q_82_0, q_82_1, q_82_4, q_82_7, q_82_8, q_82_9, q_82_12, q_82_13, q_82_16, q_82_17, pm_some, Option.toList_some, Option.toList_none, List.cons_append, List.nil_append, pm_i0, pm_i1, Nat.reduceAdd, Nat.reduceMul, Int.toNat_natCast, t1]
  · simp (disch := first | assumption | decide +kernel | omega | (split <;> omega)) only [q_118_0, q_118_1, q_118_4, q_118_5, q_118_6, q_118_7, q_118_10, q_118_11, pm_some, Option.toList_some, Option.toList_none, List.cons_append, List.nil_append, pm_i0, pm_i1, Nat.reduceAdd, Nat.reduceMul, Int.toNat_natCast, pm_up_ne]
  · refine ⟨lr_congr hI.1 (fun b _ _ => (by simp (disch := omega) only [pm_up_row])) (by simp [pm_up]) (by simp [pm_up]) (by simp [pm_up]) (by simp [pm_up]) (by simp [pm_up]) (by simp [pm_up]) (by simp (disch := omega) only [pm_up_row]) (fun b _ _ => (by simp (disch := omega) only [pm_up_row])) (fun b _ _ => (by simp (disch := omega) only [pm_up_row])), ⟨(by simp [pm_up]), ?_, ?_, ?_⟩, bk_congr hbk (by simp [pm_up]) (fun b _ _ => (by simp (disch := omega) only [pm_up_row])) (by simp [pm_up]) (by simp (disch := omega) only [pm_up_row]) (by simp (disch := omega) only [pm_up_row]) (by simp (disch := omega) only [pm_up_row]) (by simp (disch := omega) only [pm_up_row]), ?_⟩
    · simp [pm_up]
    · simp [pm_up]
    · intro i hi
      have hi : (i : Int) < 0 := by simpa [pm_up] using hi
      omega
    · simpa [pm_up] using hon
