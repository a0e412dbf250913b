/-! a text becomes signs: both sides -/
theorem c_isWordEnd (i : Int) (L : Nat) (Z : Nat → Nat → Int) (W : Nat → Nat) (h0 : 0 ≤ i) (h1 : i ≤ Z 1 1) (h60 : Z 1 1 ≤ 60) (hr : i < Z 1 1 → pm_r (Z 2 i.toNat)) : pm_D (63, 0, [.ref 1, .int (pm_J i)], [], pm_hp L Z W) = some (some (.int (pm_J (if i = Z 1 1 ∨ Z 2 i.toNat = 0 then 1 else 0))), pm_hp L Z W) := by
  by_cases c : i = Z 1 1
  · simp (disch := first | assumption | decide +kernel | omega | (split <;> omega)) only [q_63_0, q_63_1, q_63_2, q_63_5, q_63_8, q_63_9, q_63_12, q_63_13, q_63_14, q_63_17, q_63_18, q_63_21, q_63_22, pm_some, Option.toList_some, Option.toList_none, List.cons_append, List.nil_append, pm_i0, pm_i1, Nat.reduceAdd, Nat.reduceMul, Int.toNat_natCast, Int.toNat_zero, not_true_eq_false, not_false_eq_true, and_self, true_and, and_true, ↓reduceIte, Int.reduceEq, Int.reduceLT, Int.reduceLE, Int.reduceNeg, Bool.false_eq_true, c, true_or]
  · have r := hr (by omega)
    by_cases c2 : Z 2 i.toNat = 0
    · simp (disch := first | assumption | decide +kernel | omega | (split <;> omega)) only [q_63_0, q_63_1, q_63_2, q_63_5, q_63_8, q_63_9, q_63_12, q_63_13, q_63_14, q_63_17, q_63_18, q_63_21, q_63_22, pm_some, Option.toList_some, Option.toList_none, List.cons_append, List.nil_append, pm_i0, pm_i1, Nat.reduceAdd, Nat.reduceMul, Int.toNat_natCast, Int.toNat_zero, not_true_eq_false, not_false_eq_true, and_self, true_and, and_true, ↓reduceIte, Int.reduceEq, Int.reduceLT, Int.reduceLE, Int.reduceNeg, Bool.false_eq_true, c, c2, or_true]
    · simp (disch := first | assumption | decide +kernel | omega | (split <;> omega)) only [q_63_0, q_63_1, q_63_2, q_63_5, q_63_8, q_63_9, q_63_12, q_63_13, q_63_14, q_63_17, q_63_18, q_63_21, q_63_22, pm_some, Option.toList_some, Option.toList_none, List.cons_append, List.nil_append, pm_i0, pm_i1, Nat.reduceAdd, Nat.reduceMul, Int.toNat_natCast, Int.toNat_zero, not_true_eq_false, not_false_eq_true, and_self, true_and, and_true, ↓reduceIte, Int.reduceEq, Int.reduceLT, Int.reduceLE, Int.reduceNeg, Bool.false_eq_true, c, c2, or_self]
theorem l_Cskip {Z : Nat → Nat → Int} {f c : Int} {N : Nat} (L : Nat) (W : Nat → Nat) (hN : Z 1 1 = (N : Int)) (h60 : N ≤ 60) (hr : ∀ k : Nat, k < N → pm_r (Z 2 k)) : ∀ (n k : Nat) (Y : Nat → Nat → Int), AgB Y Z → k + n ≤ N → (∀ j, k ≤ j → j < k + n → 0 < Z 2 j) → pm_D (5, 8, [.ref 3, .ref 1, .ref 45, .int (pm_J c), .int (pm_J f), .int (pm_J (k : Int))], [], pm_hp L Y W) = pm_D (5, 8, [.ref 3, .ref 1, .ref 45, .int (pm_J c), .int (pm_J f), .int (pm_J ((k + n : Nat) : Int))], [], pm_hp L Y W) := by
  intro n
  induction n with
  | zero =>
    intro k Y A hk hl
    rfl
  | succ n ih =>
    intro k Y A hk hl
    have y1 : Y 1 1 = (N : Int) := by rw [A 1 (by omega) (by omega)]; exact hN
    have y2 := A 2 (by omega) (by omega)
    have hlk := hl k (Nat.le_refl _) (by omega)
    have hng : ¬ (N : Int) < (k : Int) := by omega
    have hwe := c_isWordEnd (k : Int) L Y W (by omega) (by rw [y1]; omega) (by rw [y1]; omega) (fun _ => by rw [y2, Int.toNat_natCast]; exact hr k (by omega))
    rw [y1, y2, Int.toNat_natCast, if_neg (by omega)] at hwe
    have h := ih (k + 1) Y A (by omega) (fun j h1 h2 => hl j (by omega) (by omega))
    rw [show (((k + 1 : Nat)) : Int) = (k : Int) + 1 by omega, show ((k + 1 + n : Nat) : Int) = ((k + (n + 1) : Nat) : Int) by omega] at h
    rw [← h, q_5_8 3 1 45 c f (k : Int)]
    simp (disch := first | assumption | decide +kernel | omega | (split <;> omega)) only [q_5_0, q_5_1, q_5_2, q_5_3, q_5_5, q_5_6, q_5_10, q_5_11, q_5_14, q_5_17, q_5_18, q_5_20, q_5_23, q_5_26, q_5_27, q_5_28, q_5_30, q_5_32, q_5_33, q_5_34, q_5_37, q_5_38, q_5_40, q_5_41, q_5_42, q_5_44, q_5_47, q_5_50, q_5_51, pm_some, Option.toList_some, Option.toList_none, List.cons_append, List.nil_append, pm_i0, pm_i1, Nat.reduceAdd, Nat.reduceMul, Int.toNat_natCast, Int.toNat_zero, not_true_eq_false, not_false_eq_true, and_self, true_and, and_true, ↓reduceIte, Int.reduceEq, Int.reduceLT, Int.reduceLE, Int.reduceNeg, Bool.false_eq_true, y1, hng, hwe]
theorem l_Rskip {Z : Nat → Nat → Int} {f : Int} {N j : Nat} (L : Nat) (W : Nat → Nat) (hN : Z 190 13 = (N : Int)) (h60 : N ≤ 60) (hch : ∀ i : Nat, (i : Int) < Z 190 13 → 0 ≤ Z 199 i ∧ Z 199 i < 65536) (hjN : j ≤ N) (hj : j < N → ¬ (97 ≤ Z 199 j ∧ Z 199 j ≤ 122)) : ∀ (n k : Nat) (Y : Nat → Nat → Int) (v4 v5 : Value), AgT Y Z → k + n = j → (∀ i, k ≤ i → i < j → 97 ≤ Z 199 i ∧ Z 199 i ≤ 122) → pm_D (126, 15, [.ref 190, .int (pm_J (k : Int)), .int (pm_J 1), .int (pm_J f), v4, v5], [], pm_hp L Y W) = pm_D (126, 29, [.ref 190, .int (pm_J (j : Int)), .int (pm_J 1), .int (pm_J f), v4, v5], [], pm_hp L Y W) := by
  intro n
  induction n with
  | zero =>
    intro k Y v4 v5 A hk hl
    obtain rfl : k = j := by omega
    have y13 : Y 190 13 = (N : Int) := by rw [A.1]; exact hN
    have hc := c_R_isLetterAt (k : Int) L Y W (by omega) (by omega) (by rw [y13]; omega) (by rw [y13]; omega) (fun q => by rw [A.2.2 199 (by omega) (by omega), Int.toNat_natCast]; exact hch k (by rw [hN]; rw [y13] at q; exact q))
    rw [y13, A.2.2 199 (by omega) (by omega), Int.toNat_natCast, if_neg (fun q => hj (by omega) q.2)] at hc
    rw [q_126_15]
    simp (disch := first | assumption | decide +kernel | omega | (split <;> omega)) only [q_126_0, q_126_1, q_126_2, q_126_5, q_126_6, q_126_7, q_126_8, q_126_10, q_126_13, q_126_14, q_126_16, q_126_17, q_126_20, q_126_23, q_126_26, q_126_30, q_126_31, q_126_34, q_126_35, q_126_36, q_126_37, q_126_38, q_126_39, q_126_42, q_126_44, q_126_46, q_126_49, q_126_50, q_126_52, q_126_55, q_126_56, q_126_57, q_126_60, q_126_62, q_126_63, q_126_66, q_126_67, q_126_68, q_126_71, q_126_73, q_126_74, q_126_77, q_126_80, q_126_81, q_126_85, q_126_86, q_126_89, q_126_90, q_126_91, q_126_94, q_126_96, q_126_97, q_126_99, q_126_100, q_126_103, q_126_106, q_126_109, q_126_110, q_126_112, q_126_116, q_126_117, q_126_120, q_126_123, q_126_124, q_126_127, q_126_128, q_126_129, q_126_130, q_126_133, q_126_134, q_126_137, q_126_138, q_126_139, q_126_141, q_126_144, q_126_145, q_126_146, q_126_149, q_126_152, q_126_153, pm_some, Option.toList_some, Option.toList_none, List.cons_append, List.nil_append, pm_i0, pm_i1, Nat.reduceAdd, Nat.reduceMul, Int.toNat_natCast, Int.toNat_zero, not_true_eq_false, not_false_eq_true, and_self, true_and, and_true, ↓reduceIte, Int.reduceEq, Int.reduceLT, Int.reduceLE, Int.reduceNeg, Bool.false_eq_true, hc]
  | succ n ih =>
    intro k Y v4 v5 A hk hl
    have y13 : Y 190 13 = (N : Int) := by rw [A.1]; exact hN
    have hlk := hl k (Nat.le_refl _) (by omega)
    have hc := c_R_isLetterAt (k : Int) L Y W (by omega) (by omega) (by rw [y13]; omega) (by rw [y13]; omega) (fun q => by rw [A.2.2 199 (by omega) (by omega), Int.toNat_natCast]; exact hch k (by rw [hN]; rw [y13] at q; exact q))
    rw [y13, A.2.2 199 (by omega) (by omega), Int.toNat_natCast, if_pos ⟨by omega, hlk⟩] at hc
    have h := ih (k + 1) Y v4 v5 A (by omega) (fun i h1 h2 => hl i (by omega) h2)
    rw [show (((k + 1 : Nat)) : Int) = (k : Int) + 1 by omega] at h
    rw [q_126_15]
    simp (disch := first | assumption | decide +kernel | omega | (split <;> omega)) only [q_126_0, q_126_1, q_126_2, q_126_5, q_126_6, q_126_7, q_126_8, q_126_10, q_126_13, q_126_14, q_126_16, q_126_17, q_126_20, q_126_23, q_126_26, q_126_30, q_126_31, q_126_34, q_126_35, q_126_36, q_126_37, q_126_38, q_126_39, q_126_42, q_126_44, q_126_46, q_126_49, q_126_50, q_126_52, q_126_55, q_126_56, q_126_57, q_126_60, q_126_62, q_126_63, q_126_66, q_126_67, q_126_68, q_126_71, q_126_73, q_126_74, q_126_77, q_126_80, q_126_81, q_126_85, q_126_86, q_126_89, q_126_90, q_126_91, q_126_94, q_126_96, q_126_97, q_126_99, q_126_100, q_126_103, q_126_106, q_126_109, q_126_110, q_126_112, q_126_116, q_126_117, q_126_120, q_126_123, q_126_124, q_126_127, q_126_128, q_126_129, q_126_130, q_126_133, q_126_134, q_126_137, q_126_138, q_126_139, q_126_141, q_126_144, q_126_145, q_126_146, q_126_149, q_126_152, q_126_153, pm_some, Option.toList_some, Option.toList_none, List.cons_append, List.nil_append, pm_i0, pm_i1, Nat.reduceAdd, Nat.reduceMul, Int.toNat_natCast, Int.toNat_zero, not_true_eq_false, not_false_eq_true, and_self, true_and, and_true, ↓reduceIte, Int.reduceEq, Int.reduceLT, Int.reduceLE, Int.reduceNeg, Bool.false_eq_true, hc]
    exact h
theorem ex_end (t : Nat → Int) (N : Nat) : ∀ n i : Nat, i + n = N → ∃ j, i ≤ j ∧ j ≤ N ∧ (∀ k, i ≤ k → k < j → 0 < t k) ∧ (j < N → t j ≤ 0)
  | 0, i, h => ⟨i, Nat.le_refl _, by omega, fun k h1 h2 => by omega, fun q => by omega⟩
  | n + 1, i, h => by
    by_cases c : 0 < t i
    · obtain ⟨j, h1, h2, h3, h4⟩ := ex_end t N n (i + 1) (by omega)
      refine ⟨j, by omega, h2, fun k q1 q2 => ?_, h4⟩
      by_cases hk : k = i
      · subst hk; exact c
      · exact h3 k (by omega) q2
    · exact ⟨i, Nat.le_refl _, by omega, fun k h1 h2 => by omega, fun _ => by omega⟩
/-- from the word that begins at i on -/
def Enc (L : Nat) (W : Nat → Nat) (Z : Nat → Nat → Int) (N i : Nat) : Prop := ∃ (m : Nat) (s : Nat → Int),
  (fp (Z 2) (N - i) i false = -1 → (1 ≤ m ∧ m ≤ 3 * (N + 1 - i)) ∧ (∀ k, k < m → 0 ≤ s k ∧ s k ≤ 99) ∧ (∀ (Y : Nat → Nat → Int) (c : Nat), AgB Y Z → c + 3 * (N + 1 - i) ≤ 200 → ∃ Y', pm_D (5, 8, [.ref 3, .ref 1, .ref 45, .int (pm_J (c : Int)), .int (pm_J (i : Int)), .int (pm_J (i : Int))], [], pm_hp L Y W) = some (some (.int (pm_J ((c + m : Nat) : Int))), pm_hp L Y' W) ∧ (∀ a, a ≠ 45 → Y' a = Y a) ∧ ∀ q, Y' 45 q = if c ≤ q ∧ q < c + m ∧ q < 30 then s (q - c) else Y 45 q)) ∧
  (∀ (Y : Nat → Nat → Int) (c : Nat) (v3 v4 v5 : Value), AgT Y Z → Y 190 20 = (c : Int) → c + 3 * (N + 1 - i) ≤ 200 → ∃ Y', pm_D (126, 9, [.ref 190, .int (pm_J (i : Int)), .int (pm_J 1), v3, v4, v5], [], pm_hp L Y W) = some (some (.int (pm_J (fp (Z 2) (N - i) i false))), pm_hp L Y' W) ∧ FrT Y Y' ∧ (fp (Z 2) (N - i) i false = -1 → Y' 190 20 = ((c + m : Nat) : Int) ∧ ∀ q, Y' 204 q = if c ≤ q ∧ q < c + m then s (q - c) else Y 204 q))
theorem enc_both {Z : Nat → Nat → Int} {W : Nat → Nat} (hB : bk Z W) (ht : tx Z) (L N : Nat) (hN : Z 190 13 = (N : Int)) : ∀ n i : Nat, i + n = N → Enc L W Z N i := by
  have BR := bkR_of hB ht
  obtain ⟨t1, t2, t3, t4⟩ := id ht
  have hN1 : Z 1 1 = (N : Int) := by rw [t1]; exact hN
  have h60 : N ≤ 60 := by omega
  have hrC : ∀ k : Nat, k < N → pm_r (Z 2 k) := fun k hk => by
    have := t4 k (by omega)
    have := tx_code_r (Z 199 k) (by omega) (by omega)
    omega
  have hlt : ∀ k : Nat, k < N → (0 < Z 2 k ↔ 97 ≤ Z 199 k ∧ Z 199 k ≤ 122) := fun k hk => by rw [(t4 k (by omega)).2.2]; exact tx_let
  intro n
  induction n using Nat.strongRecOn with
  | ind n ih =>
    intro i hi
    obtain ⟨j, j1, j2, j3, j4⟩ := ex_end (Z 2) N n i hi
    have hRs : ∀ (Y : Nat → Nat → Int) (v4 v5 : Value), AgT Y Z → pm_D (126, 15, [.ref 190, .int (pm_J (i : Int)), .int (pm_J 1), .int (pm_J (i : Int)), v4, v5], [], pm_hp L Y W) = pm_D (126, 29, [.ref 190, .int (pm_J (j : Int)), .int (pm_J 1), .int (pm_J (i : Int)), v4, v5], [], pm_hp L Y W) := fun Y v4 v5 A => l_Rskip L W hN h60 BR.2.2.2 j2 (fun q w => by have := (hlt j q).mpr w; have := j4 q; omega) (j - i) i Y v4 v5 A (by omega) (fun k h1 h2 => (hlt k (by omega)).mp (j3 k h1 h2))
    by_cases hij : j = i
    · subst hij
      have hv : fp (Z 2) (N - j) j false = (j : Int) := by
        by_cases c : j < N
        · have := j4 c
          rw [show N - j = (N - j - 1) + 1 by omega, fp_succ, if_pos ⟨this, Or.inr rfl⟩]
        · rw [show N - j = 0 by omega]
          rfl
      refine ⟨0, fun _ => 0, fun q => by omega, fun Y c v3 v4 v5 A hy hc => ⟨Y, ?_, FrT.rfl, fun q => by omega⟩⟩
      have hjr : pm_r (j : Int) := by omega
      rw [hv, q_126_9]
      simp (disch := first | assumption | decide +kernel | omega | (split <;> omega)) only [q_126_0, q_126_1, q_126_2, q_126_5, q_126_6, q_126_7, q_126_8, q_126_10, q_126_13, q_126_14, q_126_16, q_126_17, q_126_20, q_126_23, q_126_26, q_126_30, q_126_31, q_126_34, q_126_35, q_126_36, q_126_37, q_126_38, q_126_39, q_126_42, q_126_44, q_126_46, q_126_49, q_126_50, q_126_52, q_126_55, q_126_56, q_126_57, q_126_60, q_126_62, q_126_63, q_126_66, q_126_67, q_126_68, q_126_71, q_126_73, q_126_74, q_126_77, q_126_80, q_126_81, q_126_85, q_126_86, q_126_89, q_126_90, q_126_91, q_126_94, q_126_96, q_126_97, q_126_99, q_126_100, q_126_103, q_126_106, q_126_109, q_126_110, q_126_112, q_126_116, q_126_117, q_126_120, q_126_123, q_126_124, q_126_127, q_126_128, q_126_129, q_126_130, q_126_133, q_126_134, q_126_137, q_126_138, q_126_139, q_126_141, q_126_144, q_126_145, q_126_146, q_126_149, q_126_152, q_126_153, pm_some, Option.toList_some, Option.toList_none, List.cons_append, List.nil_append, pm_i0, pm_i1, Nat.reduceAdd, Nat.reduceMul, Int.toNat_natCast, Int.toNat_zero, not_true_eq_false, not_false_eq_true, and_self, true_and, and_true, ↓reduceIte, Int.reduceEq, Int.reduceLT, Int.reduceLE, Int.reduceNeg, Bool.false_eq_true]
      rw [hRs Y v4 v5 A]
      simp (disch := first | assumption | decide +kernel | omega | (split <;> omega)) only [q_126_0, q_126_1, q_126_2, q_126_5, q_126_6, q_126_7, q_126_8, q_126_10, q_126_13, q_126_14, q_126_16, q_126_17, q_126_20, q_126_23, q_126_26, q_126_29, q_126_30, q_126_31, q_126_34, q_126_35, q_126_36, q_126_37, q_126_38, q_126_39, q_126_42, q_126_44, q_126_46, q_126_49, q_126_50, q_126_52, q_126_55, q_126_56, q_126_57, q_126_60, q_126_62, q_126_63, q_126_66, q_126_67, q_126_68, q_126_71, q_126_73, q_126_74, q_126_77, q_126_80, q_126_81, q_126_85, q_126_86, q_126_89, q_126_90, q_126_91, q_126_94, q_126_96, q_126_97, q_126_99, q_126_100, q_126_103, q_126_106, q_126_109, q_126_110, q_126_112, q_126_116, q_126_117, q_126_120, q_126_123, q_126_124, q_126_127, q_126_128, q_126_129, q_126_130, q_126_133, q_126_134, q_126_137, q_126_138, q_126_139, q_126_141, q_126_144, q_126_145, q_126_146, q_126_149, q_126_152, q_126_153, pm_some, Option.toList_some, Option.toList_none, List.cons_append, List.nil_append, pm_i0, pm_i1, Nat.reduceAdd, Nat.reduceMul, Int.toNat_natCast, Int.toNat_zero, not_true_eq_false, not_false_eq_true, and_self, true_and, and_true, ↓reduceIte, Int.reduceEq, Int.reduceLT, Int.reduceLE, Int.reduceNeg, Bool.false_eq_true]
    · have hjj : i < j := by omega
      obtain ⟨m1, s1, ⟨ma, mb⟩, sb, HC, HR⟩ := word_both hB ht hjj (by omega) j3 L
      have hsk : fp (Z 2) (N - i) i false = fp (Z 2) (N - j) j true := by
        have := fp_skip (Z 2) (j - i - 1) i N false (by omega) (fun k h1 h2 => j3 k h1 (by omega))
        rw [show i + (j - i - 1) + 1 = j by omega] at this
        exact this
      have hjr : pm_r (j : Int) := by omega
      have hir : pm_r (i : Int) := by omega
      have hne : ¬ (j : Int) = (i : Int) := by omega
      -- up to the end of the word
      have R1 : ∀ (Y : Nat → Nat → Int) (c : Nat) (v3 v4 v5 : Value), AgT Y Z → Y 190 20 = (c : Int) → c + m1 ≤ 200 → ∃ (Y' : Nat → Nat → Int) (w4 : Int) (w5 : Value), pm_D (126, 9, [.ref 190, .int (pm_J (i : Int)), .int (pm_J 1), v3, v4, v5], [], pm_hp L Y W) = pm_D (126, 115, [.ref 190, .int (pm_J (j : Int)), .int (pm_J 1), .int (pm_J (i : Int)), .int (pm_J w4), w5], [], pm_hp L Y' W) ∧ FrT Y Y' ∧ Y' 190 20 = ((c + m1 : Nat) : Int) ∧ ∀ q, Y' 204 q = if c ≤ q ∧ q < c + m1 then s1 (q - c) else Y 204 q := fun Y c v3 v4 v5 A hy hc => by
        obtain ⟨Y', w4, w5, e1, f1, g0, g1⟩ := HR Y c v4 v5 A hy hc
        refine ⟨Y', w4, w5, ?_, f1, g0, g1⟩
        rw [q_126_9]
        simp (disch := first | assumption | decide +kernel | omega | (split <;> omega)) only [q_126_0, q_126_1, q_126_2, q_126_5, q_126_6, q_126_7, q_126_8, q_126_10, q_126_13, q_126_14, q_126_16, q_126_17, q_126_20, q_126_23, q_126_26, q_126_30, q_126_31, q_126_34, q_126_35, q_126_37, q_126_38, q_126_39, q_126_42, q_126_44, q_126_46, q_126_49, q_126_50, q_126_52, q_126_55, q_126_56, q_126_57, q_126_60, q_126_62, q_126_63, q_126_66, q_126_67, q_126_68, q_126_71, q_126_73, q_126_74, q_126_77, q_126_80, q_126_81, q_126_85, q_126_86, q_126_89, q_126_90, q_126_91, q_126_94, q_126_96, q_126_97, q_126_99, q_126_100, q_126_103, q_126_106, q_126_109, q_126_110, q_126_112, q_126_116, q_126_117, q_126_120, q_126_123, q_126_124, q_126_127, q_126_128, q_126_129, q_126_130, q_126_133, q_126_134, q_126_137, q_126_138, q_126_139, q_126_141, q_126_144, q_126_145, q_126_146, q_126_149, q_126_152, q_126_153, pm_some, Option.toList_some, Option.toList_none, List.cons_append, List.nil_append, pm_i0, pm_i1, Nat.reduceAdd, Nat.reduceMul, Int.toNat_natCast, Int.toNat_zero, not_true_eq_false, not_false_eq_true, and_self, true_and, and_true, ↓reduceIte, Int.reduceEq, Int.reduceLT, Int.reduceLE, Int.reduceNeg, Bool.false_eq_true]
        rw [hRs Y v4 v5 A]
        simp (disch := first | assumption | decide +kernel | omega | (split <;> omega)) only [q_126_0, q_126_1, q_126_2, q_126_5, q_126_6, q_126_7, q_126_8, q_126_10, q_126_13, q_126_14, q_126_16, q_126_17, q_126_20, q_126_23, q_126_26, q_126_29, q_126_30, q_126_31, q_126_34, q_126_35, q_126_37, q_126_38, q_126_39, q_126_42, q_126_44, q_126_46, q_126_49, q_126_50, q_126_52, q_126_55, q_126_56, q_126_57, q_126_60, q_126_62, q_126_63, q_126_66, q_126_67, q_126_68, q_126_71, q_126_73, q_126_74, q_126_77, q_126_80, q_126_81, q_126_85, q_126_86, q_126_89, q_126_90, q_126_91, q_126_94, q_126_96, q_126_97, q_126_99, q_126_100, q_126_103, q_126_106, q_126_109, q_126_110, q_126_112, q_126_116, q_126_117, q_126_120, q_126_123, q_126_124, q_126_127, q_126_128, q_126_129, q_126_130, q_126_133, q_126_134, q_126_137, q_126_138, q_126_139, q_126_141, q_126_144, q_126_145, q_126_146, q_126_149, q_126_152, q_126_153, pm_some, Option.toList_some, Option.toList_none, List.cons_append, List.nil_append, pm_i0, pm_i1, Nat.reduceAdd, Nat.reduceMul, Int.toNat_natCast, Int.toNat_zero, not_true_eq_false, not_false_eq_true, and_self, true_and, and_true, ↓reduceIte, Int.reduceEq, Int.reduceLT, Int.reduceLE, Int.reduceNeg, Bool.false_eq_true, hne]
        exact e1
      have C1 : ∀ (Y : Nat → Nat → Int) (c : Nat), AgB Y Z → c ≤ 200 → (j < N → Z 2 j = 0) → ∃ Y', pm_D (5, 8, [.ref 3, .ref 1, .ref 45, .int (pm_J (c : Int)), .int (pm_J (i : Int)), .int (pm_J (i : Int))], [], pm_hp L Y W) = pm_D (5, 8, [.ref 3, .ref 1, .ref 45, .int (pm_J ((c + m1 : Nat) : Int)), .int (pm_J ((j + 1 : Nat) : Int)), .int (pm_J ((j + 1 : Nat) : Int))], [], pm_hp L Y' W) ∧ (∀ a, a ≠ 45 → Y' a = Y a) ∧ ∀ q, Y' 45 q = if c ≤ q ∧ q < c + m1 ∧ q < 30 then s1 (q - c) else Y 45 q := fun Y c A hc hz => by
        obtain ⟨Y', e1, f1, g1⟩ := HC Y c A hc
        refine ⟨Y', ?_, f1, g1⟩
        have hsC := l_Cskip (f := (i : Int)) (c := (c : Int)) L W hN1 h60 hrC (j - i) i Y A (by omega) (fun k h1 h2 => j3 k h1 (by omega))
        rw [show i + (j - i) = j by omega] at hsC
        have y1 : Y 1 1 = (N : Int) := by rw [A 1 (by omega) (by omega)]; exact hN1
        have y2 := A 2 (by omega) (by omega)
        have hng : ¬ (N : Int) < (j : Int) := by omega
        have hwe := c_isWordEnd (j : Int) L Y W (by omega) (by rw [y1]; omega) (by rw [y1]; omega) (fun q => by rw [y2, Int.toNat_natCast]; rw [y1] at q; exact hrC j (by omega))
        rw [y1, y2, Int.toNat_natCast, if_pos (by
          by_cases c : j < N
          · exact Or.inr (hz c)
          · exact Or.inl (by omega))] at hwe
        rw [hsC, q_5_8 3 1 45 (c : Int) (i : Int) (j : Int)]
        simp (disch := first | assumption | decide +kernel | omega | (split <;> omega)) only [q_5_0, q_5_1, q_5_2, q_5_3, q_5_5, q_5_6, q_5_10, q_5_11, q_5_14, q_5_17, q_5_18, q_5_20, q_5_23, q_5_26, q_5_27, q_5_28, q_5_30, q_5_32, q_5_33, q_5_34, q_5_37, q_5_38, q_5_40, q_5_41, q_5_42, q_5_44, q_5_47, q_5_50, q_5_51, pm_some, Option.toList_some, Option.toList_none, List.cons_append, List.nil_append, pm_i0, pm_i1, Nat.reduceAdd, Nat.reduceMul, Int.toNat_natCast, Int.toNat_zero, not_true_eq_false, not_false_eq_true, and_self, true_and, and_true, ↓reduceIte, Int.reduceEq, Int.reduceLT, Int.reduceLE, Int.reduceNeg, Bool.false_eq_true, y1, hng, hwe, e1]
        rw [show (((j + 1 : Nat)) : Int) = (j : Int) + 1 by omega]
      by_cases hjN : j < N
      · have htj := j4 hjN
        have htr := tx_code_r (Z 199 j) (t4 j (by omega)).1 (t4 j (by omega)).2.1
        rw [← (t4 j (by omega)).2.2] at htr
        have h32 : Z 2 j = 0 ↔ Z 199 j = 32 := by
          have h := (t4 j (by omega)).2.2
          rw [h]
          have hn : ¬ (97 ≤ Z 199 j ∧ Z 199 j ≤ 122) := fun q => by have := (hlt j hjN).mpr q; omega
          unfold tx_code
          rw [if_neg hn]
          split <;> omega
        have hch := t4 j (by omega)
        have hj60 : (j : Int) < 60 := by omega
        have hjN' : (j : Int) < (N : Int) := by omega
        by_cases hz : Z 2 j = 0
        · have hsk2 : fp (Z 2) (N - j) j true = fp (Z 2) (N - (j + 1)) (j + 1) false := by
            rw [show N - j = (N - (j + 1)) + 1 by omega, fp_succ, if_neg (fun q => q.2.elim (fun h => by omega) (fun h => Bool.noConfusion h)), show decide (0 < Z 2 j) = false by simp [hz]]
          obtain ⟨m2, s2, E1, E2⟩ := ih (N - (j + 1)) (by omega) (j + 1) (by omega)
          refine ⟨m1 + m2, fun k => if k < m1 then s1 k else s2 (k - m1), fun hv => ?_, fun Y c v3 v4 v5 A hy hc => ?_⟩
          · rw [hsk, hsk2] at hv
            obtain ⟨⟨x1, x2⟩, x3, x4⟩ := E1 hv
            refine ⟨⟨by omega, by omega⟩, fun k hk => ?_, fun Y c A hc => ?_⟩
            · show 0 ≤ (if k < m1 then s1 k else s2 (k - m1)) ∧ (if k < m1 then s1 k else s2 (k - m1)) ≤ 99
              by_cases q : k < m1
              · rw [if_pos q]; exact sb k q
              · rw [if_neg q]; exact x3 (k - m1) (by omega)
            · obtain ⟨Y1, e1, f1, g1⟩ := C1 Y c A (by omega) (fun _ => hz)
              obtain ⟨Y2, e2, f2, g2⟩ := x4 Y1 (c + m1) (fun a h1 h2 => by rw [f1 a (by omega)]; exact A a h1 h2) (by omega)
              refine ⟨Y2, ?_, fun a ha => by rw [f2 a ha, f1 a ha], fun q => ?_⟩
              · rw [e1, e2, show c + m1 + m2 = c + (m1 + m2) by omega]
              · rw [g2 q, g1 q]
                show _ = if c ≤ q ∧ q < c + (m1 + m2) ∧ q < 30 then (if q - c < m1 then s1 (q - c) else s2 (q - c - m1)) else _
                by_cases h1 : c + m1 ≤ q ∧ q < c + m1 + m2 ∧ q < 30
                · rw [if_pos h1, if_pos (show c ≤ q ∧ q < c + (m1 + m2) ∧ q < 30 by omega), if_neg (by omega), show q - (c + m1) = q - c - m1 by omega]
                · rw [if_neg h1]
                  by_cases h2 : c ≤ q ∧ q < c + m1 ∧ q < 30
                  · rw [if_pos h2, if_pos (show c ≤ q ∧ q < c + (m1 + m2) ∧ q < 30 by omega), if_pos (by omega)]
                  · rw [if_neg h2, if_neg (show ¬ (c ≤ q ∧ q < c + (m1 + m2) ∧ q < 30) by omega)]
          · obtain ⟨Y1, w4, w5, e1, f1, g0, g1⟩ := R1 Y c v3 v4 v5 A hy (by omega)
            have A1 := A.fr f1
            obtain ⟨Y2, e2, f2, g2⟩ := E2 Y1 (c + m1) (.int (pm_J (i : Int))) (.int (pm_J w4)) w5 A1 g0 (by omega)
            rw [← hsk2, ← hsk] at e2 g2
            rw [show (((j + 1 : Nat)) : Int) = (j : Int) + 1 by omega] at e2
            refine ⟨Y2, ?_, FrT.trans f1 f2, fun hv => ?_⟩
            · have y13 : Y1 190 13 = (N : Int) := by rw [A1.1]; exact hN
              have y199 : Y1 199 j = 32 := by rw [A1.2.2 199 (by omega) (by omega)]; exact h32.mp hz
              rw [e1]
              have h115 : pm_D (126, 115, [.ref 190, .int (pm_J (j : Int)), .int (pm_J 1), .int (pm_J (i : Int)), .int (pm_J w4), w5], [], pm_hp L Y1 W) = pm_D (126, 9, [.ref 190, .int (pm_J ((j : Int) + 1)), .int (pm_J 1), .int (pm_J (i : Int)), .int (pm_J w4), w5], [], pm_hp L Y1 W) := by
                simp (disch := first | assumption | decide +kernel | omega | (split <;> omega)) only [q_126_0, q_126_1, q_126_2, q_126_5, q_126_6, q_126_7, q_126_8, q_126_10, q_126_13, q_126_14, q_126_16, q_126_17, q_126_20, q_126_23, q_126_26, q_126_30, q_126_31, q_126_34, q_126_35, q_126_37, q_126_38, q_126_39, q_126_42, q_126_44, q_126_46, q_126_49, q_126_50, q_126_52, q_126_55, q_126_56, q_126_57, q_126_60, q_126_62, q_126_63, q_126_66, q_126_67, q_126_68, q_126_71, q_126_73, q_126_74, q_126_77, q_126_80, q_126_81, q_126_85, q_126_86, q_126_89, q_126_90, q_126_91, q_126_94, q_126_96, q_126_97, q_126_99, q_126_100, q_126_103, q_126_106, q_126_109, q_126_110, q_126_112, q_126_115, q_126_116, q_126_117, q_126_120, q_126_123, q_126_124, q_126_127, q_126_128, q_126_129, q_126_130, q_126_133, q_126_134, q_126_137, q_126_138, q_126_139, q_126_141, q_126_144, q_126_145, q_126_146, q_126_149, q_126_152, q_126_153, pm_some, Option.toList_some, Option.toList_none, List.cons_append, List.nil_append, pm_i0, pm_i1, Nat.reduceAdd, Nat.reduceMul, Int.toNat_natCast, Int.toNat_zero, not_true_eq_false, not_false_eq_true, and_self, true_and, and_true, ↓reduceIte, Int.reduceEq, Int.reduceLT, Int.reduceLE, Int.reduceNeg, Bool.false_eq_true, y13, hjN', y199]
              rw [h115]
              exact e2
            · obtain ⟨k1, k2⟩ := g2 hv
              refine ⟨by rw [k1]; omega, fun q => ?_⟩
              rw [k2 q, g1 q]
              show _ = if c ≤ q ∧ q < c + (m1 + m2) then (if q - c < m1 then s1 (q - c) else s2 (q - c - m1)) else _
              by_cases h1 : c + m1 ≤ q ∧ q < c + m1 + m2
              · rw [if_pos h1, if_pos (show c ≤ q ∧ q < c + (m1 + m2) by omega), if_neg (by omega), show q - (c + m1) = q - c - m1 by omega]
              · rw [if_neg h1]
                by_cases h2 : c ≤ q ∧ q < c + m1
                · rw [if_pos h2, if_pos (show c ≤ q ∧ q < c + (m1 + m2) by omega), if_pos (by omega)]
                · rw [if_neg h2, if_neg (show ¬ (c ≤ q ∧ q < c + (m1 + m2)) by omega)]
        · have hv : fp (Z 2) (N - i) i false = (j : Int) := by
            rw [hsk, show N - j = (N - (j + 1)) + 1 by omega, fp_succ, if_pos ⟨htj, Or.inl (by omega)⟩]
          refine ⟨0, fun _ => 0, fun q => by omega, fun Y c v3 v4 v5 A hy hc => ?_⟩
          obtain ⟨Y1, w4, w5, e1, f1, g0, g1⟩ := R1 Y c v3 v4 v5 A hy (by omega)
          have A1 := A.fr f1
          refine ⟨Y1, ?_, f1, fun q => by omega⟩
          have y13 : Y1 190 13 = (N : Int) := by rw [A1.1]; exact hN
          have y199 : Y1 199 j = Z 199 j := by rw [A1.2.2 199 (by omega) (by omega)]
          have hn32 : ¬ Z 199 j = 32 := fun q => hz (h32.mpr q)
          have r199 : pm_r (Z 199 j) := by omega
          rw [hv, e1]
          simp (disch := first | assumption | decide +kernel | omega | (split <;> omega)) only [q_126_0, q_126_1, q_126_2, q_126_5, q_126_6, q_126_7, q_126_8, q_126_10, q_126_13, q_126_14, q_126_16, q_126_17, q_126_20, q_126_23, q_126_26, q_126_30, q_126_31, q_126_34, q_126_35, q_126_37, q_126_38, q_126_39, q_126_42, q_126_44, q_126_46, q_126_49, q_126_50, q_126_52, q_126_55, q_126_56, q_126_57, q_126_60, q_126_62, q_126_63, q_126_66, q_126_67, q_126_68, q_126_71, q_126_73, q_126_74, q_126_77, q_126_80, q_126_81, q_126_85, q_126_86, q_126_89, q_126_90, q_126_91, q_126_94, q_126_96, q_126_97, q_126_99, q_126_100, q_126_103, q_126_106, q_126_109, q_126_110, q_126_112, q_126_115, q_126_116, q_126_117, q_126_120, q_126_123, q_126_124, q_126_127, q_126_128, q_126_129, q_126_130, q_126_133, q_126_134, q_126_137, q_126_138, q_126_139, q_126_141, q_126_144, q_126_145, q_126_146, q_126_149, q_126_152, q_126_153, pm_some, Option.toList_some, Option.toList_none, List.cons_append, List.nil_append, pm_i0, pm_i1, Nat.reduceAdd, Nat.reduceMul, Int.toNat_natCast, Int.toNat_zero, not_true_eq_false, not_false_eq_true, and_self, true_and, and_true, ↓reduceIte, Int.reduceEq, Int.reduceLT, Int.reduceLE, Int.reduceNeg, Bool.false_eq_true, y13, hjN', y199, hn32]
      · obtain rfl : j = N := by omega
        have hv : fp (Z 2) (j - i) i false = -1 := by
          rw [hsk, show j - j = 0 by omega]
          rfl
        refine ⟨m1, s1, fun _ => ⟨⟨by omega, by omega⟩, sb, fun Y c A hc => ?_⟩, fun Y c v3 v4 v5 A hy hc => ?_⟩
        · obtain ⟨Y1, e1, f1, g1⟩ := C1 Y c A (by omega) (fun q => by omega)
          refine ⟨Y1, ?_, f1, g1⟩
          have y1 : Y1 1 1 = (j : Int) := by rw [f1 1 (by omega), A 1 (by omega) (by omega)]; exact hN1
          have hg : (j : Int) < ((j + 1 : Nat) : Int) := by omega
          have hr1 : pm_r ((j + 1 : Nat) : Int) := by omega
          rw [e1, q_5_8]
          simp (disch := first | assumption | decide +kernel | omega | (split <;> omega)) only [q_5_0, q_5_1, q_5_2, q_5_3, q_5_5, q_5_6, q_5_10, q_5_11, q_5_14, q_5_17, q_5_18, q_5_20, q_5_23, q_5_26, q_5_27, q_5_28, q_5_30, q_5_32, q_5_33, q_5_34, q_5_37, q_5_38, q_5_40, q_5_41, q_5_42, q_5_44, q_5_47, q_5_50, q_5_51, pm_some, Option.toList_some, Option.toList_none, List.cons_append, List.nil_append, pm_i0, pm_i1, Nat.reduceAdd, Nat.reduceMul, Int.toNat_natCast, Int.toNat_zero, not_true_eq_false, not_false_eq_true, and_self, true_and, and_true, ↓reduceIte, Int.reduceEq, Int.reduceLT, Int.reduceLE, Int.reduceNeg, Bool.false_eq_true, y1, hg]
        · obtain ⟨Y1, w4, w5, e1, f1, g0, g1⟩ := R1 Y c v3 v4 v5 A hy (by omega)
          have A1 := A.fr f1
          refine ⟨Y1, ?_, f1, fun _ => ⟨g0, g1⟩⟩
          have y13 : Y1 190 13 = (j : Int) := by rw [A1.1]; exact hN
          rw [hv, e1]
          have h115 : pm_D (126, 115, [.ref 190, .int (pm_J (j : Int)), .int (pm_J 1), .int (pm_J (i : Int)), .int (pm_J w4), w5], [], pm_hp L Y1 W) = pm_D (126, 9, [.ref 190, .int (pm_J ((j : Int) + 1)), .int (pm_J 0), .int (pm_J (i : Int)), .int (pm_J w4), w5], [], pm_hp L Y1 W) := by
            simp (disch := first | assumption | decide +kernel | omega | (split <;> omega)) only [q_126_0, q_126_1, q_126_2, q_126_5, q_126_6, q_126_7, q_126_8, q_126_10, q_126_13, q_126_14, q_126_16, q_126_17, q_126_20, q_126_23, q_126_26, q_126_30, q_126_31, q_126_34, q_126_35, q_126_37, q_126_38, q_126_39, q_126_42, q_126_44, q_126_46, q_126_49, q_126_50, q_126_52, q_126_55, q_126_56, q_126_57, q_126_60, q_126_62, q_126_63, q_126_66, q_126_67, q_126_68, q_126_71, q_126_73, q_126_74, q_126_77, q_126_80, q_126_81, q_126_85, q_126_86, q_126_89, q_126_90, q_126_91, q_126_94, q_126_96, q_126_97, q_126_99, q_126_100, q_126_103, q_126_106, q_126_109, q_126_110, q_126_112, q_126_115, q_126_116, q_126_117, q_126_120, q_126_123, q_126_124, q_126_127, q_126_128, q_126_129, q_126_130, q_126_133, q_126_134, q_126_137, q_126_138, q_126_139, q_126_141, q_126_144, q_126_145, q_126_146, q_126_149, q_126_152, q_126_153, pm_some, Option.toList_some, Option.toList_none, List.cons_append, List.nil_append, pm_i0, pm_i1, Nat.reduceAdd, Nat.reduceMul, Int.toNat_natCast, Int.toNat_zero, not_true_eq_false, not_false_eq_true, and_self, true_and, and_true, ↓reduceIte, Int.reduceEq, Int.reduceLT, Int.reduceLE, Int.reduceNeg, Bool.false_eq_true, y13, Int.lt_irrefl]
          rw [h115, q_126_9]
          simp (disch := first | assumption | decide +kernel | omega | (split <;> omega)) only [q_126_0, q_126_1, q_126_2, q_126_5, q_126_6, q_126_7, q_126_8, q_126_10, q_126_13, q_126_14, q_126_16, q_126_17, q_126_20, q_126_23, q_126_26, q_126_30, q_126_31, q_126_34, q_126_35, q_126_37, q_126_38, q_126_39, q_126_42, q_126_44, q_126_46, q_126_49, q_126_50, q_126_52, q_126_55, q_126_56, q_126_57, q_126_60, q_126_62, q_126_63, q_126_66, q_126_67, q_126_68, q_126_71, q_126_73, q_126_74, q_126_77, q_126_80, q_126_81, q_126_85, q_126_86, q_126_89, q_126_90, q_126_91, q_126_94, q_126_96, q_126_97, q_126_99, q_126_100, q_126_103, q_126_106, q_126_109, q_126_110, q_126_112, q_126_115, q_126_116, q_126_117, q_126_120, q_126_123, q_126_124, q_126_127, q_126_128, q_126_129, q_126_130, q_126_133, q_126_134, q_126_137, q_126_138, q_126_139, q_126_141, q_126_144, q_126_145, q_126_146, q_126_149, q_126_152, q_126_153, pm_some, Option.toList_some, Option.toList_none, List.cons_append, List.nil_append, pm_i0, pm_i1, Nat.reduceAdd, Nat.reduceMul, Int.toNat_natCast, Int.toNat_zero, not_true_eq_false, not_false_eq_true, and_self, true_and, and_true, ↓reduceIte, Int.reduceEq, Int.reduceLT, Int.reduceLE, Int.reduceNeg, Bool.false_eq_true]
theorem Inv_ofT {T : Int} {Z Z2 : Nat → Nat → Int} {W : Nat → Nat} (hI : Inv T Z W) (hs : ∀ b, b ≠ 45 → b ≠ 190 → b ≠ 204 → Z2 b = Z b) (h190 : ∀ q, q ≠ 20 → Z2 190 q = Z 190 q) : Inv T Z2 W := by
  obtain ⟨H, htx, hbk, hon⟩ := hI
  refine ⟨lr_congr H (fun b _ _ => hs _ (by omega) (by omega) (by omega)) (h190 _ (by omega)) (h190 _ (by omega)) (h190 _ (by omega)) (h190 _ (by omega)) (h190 _ (by omega)) (h190 _ (by omega)) (hs _ (by omega) (by omega) (by omega)) (fun b _ _ => hs _ (by omega) (by omega) (by omega)) (fun b _ _ => hs _ (by omega) (by omega) (by omega)), tx_congr htx (by rw [hs 1 (by omega) (by omega) (by omega)]) (hs _ (by omega) (by omega) (by omega)) (h190 _ (by omega)) (hs _ (by omega) (by omega) (by omega)), bk_congr hbk (by rw [hs 3 (by omega) (by omega) (by omega)]) (fun b _ _ => hs _ (by omega) (by omega) (by omega)) (h190 _ (by omega)) (hs _ (by omega) (by omega) (by omega)) (hs _ (by omega) (by omega) (by omega)) (hs _ (by omega) (by omega) (by omega)) (hs _ (by omega) (by omega) (by omega)), by rw [h190 29 (by omega)]; exact hon⟩
/-- both sides make signs of the text -/
theorem enc_all {T : Int} {Z : Nat → Nat → Int} {W : Nat → Nat} (hI : Inv T Z W) (L : Nat) : ∃ (v : Int) (m : Nat) (s : Nat → Int), (-1 ≤ v ∧ v ≤ 60) ∧ pm_D (61, 0, [.ref 1, .null, .null], [], pm_hp L Z W) = some (some (.int (pm_J v)), pm_hp L Z W) ∧
    (v = -1 → (1 ≤ m ∧ m ≤ 183) ∧ (∀ k, k < m → 0 ≤ s k ∧ s k ≤ 99) ∧ ∃ Z1, pm_D (5, 0, [.ref 3, .ref 1, .ref 45, .null, .null, .null], [], pm_hp L Z W) = some (some (.int (pm_J (m : Int))), pm_hp L Z1 W) ∧ (∀ a, a ≠ 45 → Z1 a = Z a) ∧ ∀ q, q < m → q < 30 → Z1 45 q = s q) ∧
    (∀ Y, AgT Y Z → ∃ Y', pm_D (126, 0, [.ref 190, .null, .null, .null, .null, .null], [], pm_hp L Y W) = some (some (.int (pm_J v)), pm_hp L Y' W) ∧ FrT Y Y' ∧ (v = -1 → Y' 190 20 = (m : Int) ∧ ∀ q, q < m → Y' 204 q = s q)) := by
  obtain ⟨H, htx, hbk, hon⟩ := id hI
  obtain ⟨t1, t2, t3, t4⟩ := id htx
  obtain ⟨N, hN⟩ : ∃ N : Nat, Z 190 13 = (N : Int) := ⟨(Z 190 13).toNat, by omega⟩
  obtain ⟨m, s, E1, E2⟩ := enc_both hbk htx L N hN N 0 (by omega)
  have hcf := c_faultPlace L Z W (by omega) (by omega) (fun k hk => by
    have q := t4 k (by omega)
    rw [q.2.2]
    exact tx_code_r _ q.1 q.2.1)
  rw [t1, hN, Int.toNat_natCast] at hcf
  have hr := fp_r (Z 2) N 0 false
  simp only [Nat.sub_zero] at E1 E2
  refine ⟨fp (Z 2) N 0 false, m, s, by omega, hcf, fun hv => ?_, fun Y hY => ?_⟩
  · obtain ⟨⟨x1, x2⟩, x3, x4⟩ := E1 hv
    obtain ⟨Z1, e1, f1, g1⟩ := x4 Z 0 (fun _ _ _ => rfl) (by omega)
    refine ⟨⟨x1, by omega⟩, x3, Z1, ?_, f1, fun q h1 h2 => ?_⟩
    · rw [show (((0 : Nat)) : Int) = 0 from rfl, Nat.zero_add] at e1
      rw [← e1]
      simp (disch := first | assumption | decide +kernel | omega | (split <;> omega)) only [q_5_0, q_5_1, q_5_2, q_5_3, q_5_5, q_5_6, q_5_10, q_5_11, q_5_14, q_5_17, q_5_18, q_5_20, q_5_23, q_5_26, q_5_27, q_5_28, q_5_30, q_5_32, q_5_33, q_5_34, q_5_37, q_5_38, q_5_40, q_5_41, q_5_42, q_5_44, q_5_47, q_5_50, q_5_51, pm_some, Option.toList_some, Option.toList_none, List.cons_append, List.nil_append, pm_i0, pm_i1, Nat.reduceAdd, Nat.reduceMul, Int.toNat_natCast, Int.toNat_zero]
    · rw [g1 q, if_pos (by omega)]
      rfl
  · have A : AgT (pm_up Y 190 20 0) Z := ⟨by rw [pm_up_ne (by omega), hY.1], by rw [pm_up_ne (by omega), hY.2.1], fun a h1 h2 => by rw [pm_up_row (by omega), hY.2.2 a h1 h2]⟩
    obtain ⟨Y', e1, f1, g1⟩ := E2 (pm_up Y 190 20 0) 0 .null .null .null A (pm_up_same _ _ _ _) (by omega)
    refine ⟨Y', ?_, FrT.trans ⟨fun a h1 h2 => pm_up_row h1, fun q hq => pm_up_ne (by omega)⟩ f1, fun hv => ?_⟩
    · rw [show (((0 : Nat)) : Int) = 0 from rfl] at e1
      rw [← e1]
      simp (disch := first | assumption | decide +kernel | omega | (split <;> omega)) only [q_126_0, q_126_1, q_126_2, q_126_5, q_126_6, q_126_7, q_126_8, q_126_10, q_126_13, q_126_14, q_126_16, q_126_17, q_126_20, q_126_23, q_126_26, q_126_30, q_126_31, q_126_34, q_126_35, q_126_37, q_126_38, q_126_39, q_126_42, q_126_44, q_126_46, q_126_49, q_126_50, q_126_52, q_126_55, q_126_56, q_126_57, q_126_60, q_126_62, q_126_63, q_126_66, q_126_67, q_126_68, q_126_71, q_126_73, q_126_74, q_126_77, q_126_80, q_126_81, q_126_85, q_126_86, q_126_89, q_126_90, q_126_91, q_126_94, q_126_96, q_126_97, q_126_99, q_126_100, q_126_103, q_126_106, q_126_109, q_126_110, q_126_112, q_126_116, q_126_117, q_126_120, q_126_123, q_126_124, q_126_127, q_126_128, q_126_129, q_126_130, q_126_133, q_126_134, q_126_137, q_126_138, q_126_139, q_126_141, q_126_144, q_126_145, q_126_146, q_126_149, q_126_152, q_126_153, pm_some, Option.toList_some, Option.toList_none, List.cons_append, List.nil_append, pm_i0, pm_i1, Nat.reduceAdd, Nat.reduceMul, Int.toNat_natCast, Int.toNat_zero]
    · obtain ⟨k1, k2⟩ := g1 hv
      rw [Nat.zero_add] at k1
      refine ⟨k1, fun q hq => ?_⟩
      rw [k2 q, if_pos (by omega)]
      rfl
theorem op_signCount : Op_signCount := by
  intro T L Z W hI hT0 hT
  obtain ⟨v, m, s, hv, hC, hE, hR⟩ := enc_all hI L
  have hvr : pm_r v := by omega
  by_cases h1 : v = -1
  · obtain ⟨⟨m1, m2⟩, sb, Z1, e1, f1, g1⟩ := hE h1
    obtain ⟨Z2, e2, f2, g2⟩ := hR Z1 ⟨by rw [f1 190 (by omega)], by rw [f1 190 (by omega)], fun a h1 h2 => f1 a (by omega)⟩
    obtain ⟨g3, g4⟩ := g2 h1
    subst h1
    refine ⟨(m : Int), Z1, W, Z2, W, by omega, ?_, ?_, Inv.up (Inv_ofT hI (fun b h1 h2 h3 => by rw [f2.1 b h2 h3, f1 b h1]) (fun q hq => by rw [f2.2 q hq, f1 190 (by omega)])), f1 _ (by omega), by rw [f2.1 _ (by omega) (by omega), f1 _ (by omega)]⟩
    · simp (disch := first | assumption | decide +kernel | omega | (split <;> omega)) only [q_85_0, q_85_1, q_85_4, q_85_7, q_85_8, q_85_9, q_85_10, q_85_13, q_85_15, q_85_16, q_85_17, q_85_18, q_85_19, q_85_22, q_85_23, q_85_26, q_85_27, q_85_30, q_85_33, pm_some, Option.toList_some, Option.toList_none, List.cons_append, List.nil_append, pm_i0, pm_i1, Nat.reduceAdd, Nat.reduceMul, Int.toNat_natCast, Int.toNat_zero, not_true_eq_false, not_false_eq_true, and_self, true_and, and_true, ↓reduceIte, Int.reduceEq, Int.reduceLT, Int.reduceLE, Int.reduceNeg, Bool.false_eq_true, hC, e1]
    · simp (disch := first | assumption | decide +kernel | omega | (split <;> omega)) only [q_127_0, q_127_1, q_127_4, q_127_5, q_127_6, q_127_9, q_127_11, q_127_12, q_127_13, q_127_16, q_127_17, q_127_20, pm_some, Option.toList_some, Option.toList_none, List.cons_append, List.nil_append, pm_i0, pm_i1, Nat.reduceAdd, Nat.reduceMul, Int.toNat_natCast, Int.toNat_zero, not_true_eq_false, not_false_eq_true, and_self, true_and, and_true, ↓reduceIte, Int.reduceEq, Int.reduceLT, Int.reduceLE, Int.reduceNeg, Bool.false_eq_true, e2, g3]
  · obtain ⟨Z2, e2, f2, g2⟩ := hR Z ⟨rfl, rfl, fun _ _ _ => rfl⟩
    have hn : ¬ v < 0 := by omega
    refine ⟨-100 - v, Z, W, Z2, W, by omega, ?_, ?_, Inv.up (Inv_ofT hI (fun b h1 h2 h3 => f2.1 b h2 h3) (fun q hq => f2.2 q hq)), rfl, f2.1 _ (by omega) (by omega)⟩
    · simp (disch := first | assumption | decide +kernel | omega | (split <;> omega)) only [q_85_0, q_85_1, q_85_4, q_85_7, q_85_8, q_85_9, q_85_10, q_85_13, q_85_15, q_85_16, q_85_17, q_85_18, q_85_19, q_85_22, q_85_23, q_85_26, q_85_27, q_85_30, q_85_33, pm_some, Option.toList_some, Option.toList_none, List.cons_append, List.nil_append, pm_i0, pm_i1, Nat.reduceAdd, Nat.reduceMul, Int.toNat_natCast, Int.toNat_zero, not_true_eq_false, not_false_eq_true, and_self, true_and, and_true, ↓reduceIte, Int.reduceEq, Int.reduceLT, Int.reduceLE, Int.reduceNeg, Bool.false_eq_true, hC, h1]
    · simp (disch := first | assumption | decide +kernel | omega | (split <;> omega)) only [q_127_0, q_127_1, q_127_4, q_127_5, q_127_6, q_127_9, q_127_11, q_127_12, q_127_13, q_127_16, q_127_17, q_127_20, pm_some, Option.toList_some, Option.toList_none, List.cons_append, List.nil_append, pm_i0, pm_i1, Nat.reduceAdd, Nat.reduceMul, Int.toNat_natCast, Int.toNat_zero, not_true_eq_false, not_false_eq_true, and_self, true_and, and_true, ↓reduceIte, Int.reduceEq, Int.reduceLT, Int.reduceLE, Int.reduceNeg, Bool.false_eq_true, e2, hn]
