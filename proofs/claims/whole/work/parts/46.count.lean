/-! loops: messages under way, blind links -/
def md_cu (f : Nat → Int) : Nat → Nat → Int
  | 0, _ => 0
  | n + 1, k => (if f k = 0 then 1 else 0) + md_cu f n (k + 1)
theorem md_cu_succ (f : Nat → Int) (n k : Nat) : md_cu f (n + 1) k = (if f k = 0 then 1 else 0) + md_cu f n (k + 1) := rfl
theorem md_cu_congr {f g : Nat → Int} : ∀ (n k : Nat), (∀ j, k ≤ j → j < k + n → f j = g j) → md_cu f n k = md_cu g n k
  | 0, _, _ => rfl
  | n + 1, k, h => by
    rw [md_cu_succ, md_cu_succ, h k (Nat.le_refl _) (by omega), md_cu_congr n (k + 1) (fun j h1 h2 => h j (by omega) (by omega))]
theorem md_cu_r (f : Nat → Int) : ∀ (n k : Nat), 0 ≤ md_cu f n k ∧ md_cu f n k ≤ n
  | 0, _ => ⟨Int.le_refl _, Int.le_refl _⟩
  | n + 1, k => by
    have := md_cu_r f n (k + 1)
    rw [md_cu_succ]
    split <;> omega
theorem l_count {o : Nat} (ho : pm_isL o) (L : Nat) (Z : Nat → Nat → Int) (W : Nat → Nat) (hc : Z o 4 ≤ 10) (hv : ∀ k : Nat, (k : Int) < Z o 4 → pm_r (Z (o + 9 + 6 + 5 * k) 7)) : ∀ (n k : Nat) (c : Int), (k : Int) + n = Z o 4 → pm_D (24, 4, [.ref o, .int (pm_J c), .int (pm_J (k : Int))], [], pm_hp L Z W) = some (some (.int (pm_J (c + md_cu (fun i => Z (o + 9 + 6 + 5 * i) 7) n k))), pm_hp L Z W) := by
  obtain ⟨k1, k2, k3, k4, k5, -⟩ := pm_kdL ho
  intro n
  induction n with
  | zero =>
    intro k c hk
    have hlt : ¬ (k : Int) < Z o 4 := by omega
    rw [q_24_4]
    simp (disch := first | assumption | decide +kernel | omega | (split <;> omega)) only [q_24_0, q_24_1, q_24_2, q_24_3, q_24_5, q_24_6, q_24_9, q_24_12, q_24_13, q_24_16, q_24_17, q_24_18, q_24_21, q_24_24, q_24_27, q_24_30, q_24_33, q_24_34, pm_some, Option.toList_some, Option.toList_none, List.cons_append, List.nil_append, pm_i0, pm_i1, Nat.reduceAdd, Nat.reduceMul, Int.toNat_natCast, Int.toNat_zero, hlt, not_true_eq_false, not_false_eq_true, and_self, true_and, and_true, ↓reduceIte, Int.reduceEq, Int.reduceLT, Int.reduceLE, Int.reduceNeg]
    rw [md_cu, Int.add_zero]
  | succ n ih =>
    intro k c hk
    have hlt : (k : Int) < Z o 4 := by omega
    have hr := hv k hlt
    obtain ⟨m1, -⟩ := pm_kdM (n := k) ho (by omega)
    have ih1 := ih (k + 1) (c + 1) (by omega)
    have ih0 := ih (k + 1) c (by omega)
    rw [show (((k + 1 : Nat)) : Int) = (k : Int) + 1 by omega] at ih1 ih0
    rw [q_24_4, md_cu_succ]
    by_cases hz : Z (o + 9 + 6 + 5 * k) 7 = 0
    · simp (disch := first | assumption | decide +kernel | omega | (split <;> omega)) only [q_24_0, q_24_1, q_24_2, q_24_3, q_24_5, q_24_6, q_24_9, q_24_12, q_24_13, q_24_16, q_24_17, q_24_18, q_24_21, q_24_24, q_24_27, q_24_30, q_24_33, q_24_34, c_isUnderWay, pm_some, Option.toList_some, List.cons_append, List.nil_append, pm_i0, Int.toNat_natCast, hlt, hz, not_true_eq_false, not_false_eq_true, and_self, true_and, and_true, ↓reduceIte, Int.reduceEq, Int.reduceLT, Int.reduceLE, Int.reduceNeg, ih1]
      rw [Int.add_assoc]
    · simp (disch := first | assumption | decide +kernel | omega | (split <;> omega)) only [q_24_0, q_24_1, q_24_2, q_24_3, q_24_5, q_24_6, q_24_9, q_24_12, q_24_13, q_24_16, q_24_17, q_24_18, q_24_21, q_24_24, q_24_27, q_24_30, q_24_33, q_24_34, c_isUnderWay, pm_some, Option.toList_some, List.cons_append, List.nil_append, pm_i0, Int.toNat_natCast, hlt, hz, not_true_eq_false, not_false_eq_true, and_self, true_and, and_true, ↓reduceIte, Int.reduceEq, Int.reduceLT, Int.reduceLE, Int.reduceNeg, ih0]
      rw [Int.zero_add]
theorem c_count {o : Nat} (ho : pm_isL o) (L : Nat) (Z : Nat → Nat → Int) (W : Nat → Nat) (h0 : 0 ≤ Z o 4) (hc : Z o 4 ≤ 10) (hv : ∀ k : Nat, (k : Int) < Z o 4 → pm_r (Z (o + 9 + 6 + 5 * k) 7)) : pm_D (24, 0, [.ref o, .null, .null], [], pm_hp L Z W) = some (some (.int (pm_J (md_cu (fun i => Z (o + 9 + 6 + 5 * i) 7) (Z o 4).toNat 0))), pm_hp L Z W) := by
  have := l_count ho L Z W hc hv (Z o 4).toNat 0 0 (by omega)
  rw [Int.zero_add] at this
  rw [q_24_0, q_24_1, q_24_2, q_24_3]
  exact this
theorem l_R_count (L : Nat) (Z : Nat → Nat → Int) (W : Nat → Nat) (hc : Z 190 22 ≤ 10) (hv : ∀ k : Nat, (k : Int) < Z 190 22 → pm_r (Z 191 (1 + k))) : ∀ (n k : Nat) (c : Int), (k : Int) + n = Z 190 22 → pm_D (158, 4, [.ref 190, .int (pm_J c), .int (pm_J (k : Int))], [], pm_hp L Z W) = some (some (.int (pm_J (c + md_cu (fun i => Z 191 (1 + i)) n k))), pm_hp L Z W) := by
  intro n
  induction n with
  | zero =>
    intro k c hk
    have hlt : ¬ (k : Int) < Z 190 22 := by omega
    rw [q_158_4]
    simp (disch := first | assumption | decide +kernel | omega | (split <;> omega)) only [q_158_0, q_158_1, q_158_2, q_158_3, q_158_5, q_158_6, q_158_9, q_158_12, q_158_13, q_158_14, q_158_15, q_158_18, q_158_21, q_158_22, q_158_25, q_158_26, q_158_27, q_158_28, q_158_31, q_158_34, q_158_35, pm_some, Option.toList_some, Option.toList_none, List.cons_append, List.nil_append, pm_i0, pm_i1, Nat.reduceAdd, Nat.reduceMul, Int.toNat_natCast, Int.toNat_zero, hlt, not_true_eq_false, not_false_eq_true, and_self, true_and, and_true, ↓reduceIte, Int.reduceEq, Int.reduceLT, Int.reduceLE, Int.reduceNeg]
    rw [md_cu, Int.add_zero]
  | succ n ih =>
    intro k c hk
    have hlt : (k : Int) < Z 190 22 := by omega
    have e : (1 + (k : Int)).toNat = 1 + k := by omega
    have hr : pm_r (Z 191 (1 + (k : Int)).toNat) := by rw [e]; exact hv k hlt
    have ih1 := ih (k + 1) (c + 1) (by omega)
    have ih0 := ih (k + 1) (c + 0) (by omega)
    rw [show (((k + 1 : Nat)) : Int) = (k : Int) + 1 by omega] at ih1 ih0
    rw [q_158_4, md_cu_succ]
    by_cases hz : Z 191 (1 + k) = 0
    · simp (disch := first | assumption | decide +kernel | omega | (split <;> omega)) only [q_158_0, q_158_1, q_158_2, q_158_3, q_158_5, q_158_6, q_158_9, q_158_12, q_158_13, q_158_14, q_158_15, q_158_18, q_158_21, q_158_22, q_158_25, q_158_26, q_158_27, q_158_28, q_158_31, q_158_34, q_158_35, c_R_isUnderWay, pm_some, Option.toList_some, List.cons_append, List.nil_append, pm_i0, e, hlt, hz, not_true_eq_false, not_false_eq_true, and_self, true_and, and_true, ↓reduceIte, Int.reduceEq, Int.reduceLT, Int.reduceLE, Int.reduceNeg, ih1]
      rw [Int.add_assoc]
    · simp (disch := first | assumption | decide +kernel | omega | (split <;> omega)) only [q_158_0, q_158_1, q_158_2, q_158_3, q_158_5, q_158_6, q_158_9, q_158_12, q_158_13, q_158_14, q_158_15, q_158_18, q_158_21, q_158_22, q_158_25, q_158_26, q_158_27, q_158_28, q_158_31, q_158_34, q_158_35, c_R_isUnderWay, pm_some, Option.toList_some, List.cons_append, List.nil_append, pm_i0, e, hlt, hz, not_true_eq_false, not_false_eq_true, and_self, true_and, and_true, ↓reduceIte, Int.reduceEq, Int.reduceLT, Int.reduceLE, Int.reduceNeg, ih0]
      rw [Int.add_zero, Int.zero_add]
theorem c_R_count (L : Nat) (Z : Nat → Nat → Int) (W : Nat → Nat) (h0 : 0 ≤ Z 190 22) (hc : Z 190 22 ≤ 10) (hv : ∀ k : Nat, (k : Int) < Z 190 22 → pm_r (Z 191 (1 + k))) : pm_D (158, 0, [.ref 190, .null, .null], [], pm_hp L Z W) = some (some (.int (pm_J (md_cu (fun i => Z 191 (1 + i)) (Z 190 22).toNat 0))), pm_hp L Z W) := by
  have := l_R_count L Z W hc hv (Z 190 22).toNat 0 0 (by omega)
  rw [Int.zero_add] at this
  rw [q_158_0, q_158_1, q_158_2, q_158_3]
  exact this
/-- both counts, where the line shows the model -/
theorem count_both {o : Nat} {T : Int} {Z : Nat → Nat → Int} (h : lr o T Z) : (∀ k : Nat, (k : Int) < Z o 4 → pm_r (Z (o + 9 + 6 + 5 * k) 7)) ∧ (∀ k : Nat, (k : Int) < Z 190 22 → pm_r (Z 191 (1 + k))) ∧ md_cu (fun i => Z (o + 9 + 6 + 5 * i) 7) (Z o 4).toNat 0 = md_cu (fun i => Z 191 (1 + i)) (Z 190 22).toNat 0 := by
  obtain ⟨⟨a1, a2, a3, a4, a5, a6, a7, a8, a9, -⟩, -, -, hm, -⟩ := h
  refine ⟨fun k hk => ?_, fun k hk => ?_, ?_⟩
  · obtain ⟨-, ⟨d1, d2, d3, -⟩, -⟩ := hm k (by omega)
    omega
  · obtain ⟨-, ⟨d1, d2, d3, -⟩, -⟩ := hm k hk
    omega
  · rw [a7]
    exact md_cu_congr _ _ (fun j h1 h2 => by
      obtain ⟨-, ⟨d1, -⟩, -⟩ := hm j (by omega)
      exact d1)

theorem op_value : Op_value := by
  intro T L Z W hI hT0 hT b hb
  obtain ⟨⟨⟨a1, a2, a3, a4, a5, a6, a7, a8, a9, a10, a11⟩, ⟨⟨w1, w2, w3, w4, w5, w6⟩, ⟨w7, w8, w9⟩, w10⟩, ⟨⟨f1, f2, f3⟩, f4⟩, hms, hun, hco, hsh, htk⟩, htx, hbk, hon⟩ := id hI
  have a8' : 0 ≤ Z 46 4 := by omega
  have a9' : Z 46 4 ≤ 10 := by omega
  have a2' : 0 ≤ Z 46 2 := by omega
  have a3' : Z 46 2 ≤ 8 := by omega
  have a2'' : 0 ≤ Z 190 0 := by omega
  obtain ⟨⟨b1, b2, b3⟩, -⟩ := id hbk
  have w7' : Z 47 5 = Z 190 5 := w7
  have f1' : Z 51 3 = Z 190 9 := f1
  obtain ⟨v1, v2, v3⟩ := count_both hI.1
  have hcC := c_count (o := 46) (Or.inl rfl) L Z W a8' a9' v1
  rw [v3] at hcC
  have hcR := c_R_count L Z W a8 a9 v2
  have hcr := md_cu_r (fun i => Z 191 (1 + i)) (Z 190 22).toNat 0
  by_cases b0_ : b = 0
  · subst b0_
    refine Op.same hI (Z 191 0) (by omega) ?_ ?_
    · simp (disch := first | assumption | decide +kernel | omega | (split <;> omega)) only [q_95_0, q_95_1, q_95_44, q_95_45, q_95_48, q_95_51, q_95_52, q_95_53, q_95_56, q_95_59, q_95_60, q_95_61, q_95_64, q_95_67, q_95_68, q_95_69, q_95_72, q_95_75, q_95_76, q_95_77, q_95_80, q_95_83, q_95_84, q_95_85, q_95_88, q_95_91, q_95_94, q_95_95, q_95_96, q_95_99, q_95_102, q_95_105, q_95_106, q_95_108, hcC, pm_some, Option.toList_some, Option.toList_none, List.cons_append, List.nil_append, pm_i0, pm_i1, Nat.reduceAdd, Nat.reduceMul, Int.toNat_natCast, Int.toNat_zero, not_true_eq_false, not_false_eq_true, and_self, true_and, and_true, ↓reduceIte, Int.reduceEq, Int.reduceLT, Int.reduceLE, Int.reduceNeg, a4]
    · simp (disch := first | assumption | decide +kernel | omega | (split <;> omega)) only [q_160_0, q_160_1, q_160_44, q_160_45, q_160_48, q_160_49, q_160_50, q_160_51, q_160_52, q_160_55, q_160_56, q_160_57, q_160_60, q_160_61, q_160_62, q_160_65, q_160_66, q_160_67, q_160_70, q_160_71, q_160_72, q_160_75, q_160_76, q_160_77, q_160_80, q_160_81, q_160_83, hcR, pm_some, Option.toList_some, Option.toList_none, List.cons_append, List.nil_append, pm_i0, pm_i1, Nat.reduceAdd, Nat.reduceMul, Int.toNat_natCast, Int.toNat_zero, not_true_eq_false, not_false_eq_true, and_self, true_and, and_true, ↓reduceIte, Int.reduceEq, Int.reduceLT, Int.reduceLE, Int.reduceNeg]
  by_cases b1_ : b = 1
  · subst b1_
    refine Op.same hI (Z 190 0) (by omega) ?_ ?_
    · simp (disch := first | assumption | decide +kernel | omega | (split <;> omega)) only [q_95_0, q_95_1, q_95_44, q_95_45, q_95_48, q_95_51, q_95_52, q_95_53, q_95_56, q_95_59, q_95_60, q_95_61, q_95_64, q_95_67, q_95_68, q_95_69, q_95_72, q_95_75, q_95_76, q_95_77, q_95_80, q_95_83, q_95_84, q_95_85, q_95_88, q_95_91, q_95_94, q_95_95, q_95_96, q_95_99, q_95_102, q_95_105, q_95_106, q_95_108, hcC, pm_some, Option.toList_some, Option.toList_none, List.cons_append, List.nil_append, pm_i0, pm_i1, Nat.reduceAdd, Nat.reduceMul, Int.toNat_natCast, Int.toNat_zero, not_true_eq_false, not_false_eq_true, and_self, true_and, and_true, ↓reduceIte, Int.reduceEq, Int.reduceLT, Int.reduceLE, Int.reduceNeg, a1]
    · simp (disch := first | assumption | decide +kernel | omega | (split <;> omega)) only [q_160_0, q_160_1, q_160_44, q_160_45, q_160_48, q_160_49, q_160_50, q_160_51, q_160_52, q_160_55, q_160_56, q_160_57, q_160_60, q_160_61, q_160_62, q_160_65, q_160_66, q_160_67, q_160_70, q_160_71, q_160_72, q_160_75, q_160_76, q_160_77, q_160_80, q_160_81, q_160_83, hcR, pm_some, Option.toList_some, Option.toList_none, List.cons_append, List.nil_append, pm_i0, pm_i1, Nat.reduceAdd, Nat.reduceMul, Int.toNat_natCast, Int.toNat_zero, not_true_eq_false, not_false_eq_true, and_self, true_and, and_true, ↓reduceIte, Int.reduceEq, Int.reduceLT, Int.reduceLE, Int.reduceNeg]
  by_cases b2_ : b = 2
  · subst b2_
    refine Op.same hI (Z 190 22) (by omega) ?_ ?_
    · simp (disch := first | assumption | decide +kernel | omega | (split <;> omega)) only [q_95_0, q_95_1, q_95_44, q_95_45, q_95_48, q_95_51, q_95_52, q_95_53, q_95_56, q_95_59, q_95_60, q_95_61, q_95_64, q_95_67, q_95_68, q_95_69, q_95_72, q_95_75, q_95_76, q_95_77, q_95_80, q_95_83, q_95_84, q_95_85, q_95_88, q_95_91, q_95_94, q_95_95, q_95_96, q_95_99, q_95_102, q_95_105, q_95_106, q_95_108, hcC, pm_some, Option.toList_some, Option.toList_none, List.cons_append, List.nil_append, pm_i0, pm_i1, Nat.reduceAdd, Nat.reduceMul, Int.toNat_natCast, Int.toNat_zero, not_true_eq_false, not_false_eq_true, and_self, true_and, and_true, ↓reduceIte, Int.reduceEq, Int.reduceLT, Int.reduceLE, Int.reduceNeg, a7]
    · simp (disch := first | assumption | decide +kernel | omega | (split <;> omega)) only [q_160_0, q_160_1, q_160_44, q_160_45, q_160_48, q_160_49, q_160_50, q_160_51, q_160_52, q_160_55, q_160_56, q_160_57, q_160_60, q_160_61, q_160_62, q_160_65, q_160_66, q_160_67, q_160_70, q_160_71, q_160_72, q_160_75, q_160_76, q_160_77, q_160_80, q_160_81, q_160_83, hcR, pm_some, Option.toList_some, Option.toList_none, List.cons_append, List.nil_append, pm_i0, pm_i1, Nat.reduceAdd, Nat.reduceMul, Int.toNat_natCast, Int.toNat_zero, not_true_eq_false, not_false_eq_true, and_self, true_and, and_true, ↓reduceIte, Int.reduceEq, Int.reduceLT, Int.reduceLE, Int.reduceNeg]
  by_cases b3_ : b = 3
  · subst b3_
    refine Op.same hI (md_cu (fun i => Z 191 (1 + i)) (Z 190 22).toNat 0) (by omega) ?_ ?_
    · simp (disch := first | assumption | decide +kernel | omega | (split <;> omega)) only [q_95_0, q_95_1, q_95_44, q_95_45, q_95_48, q_95_51, q_95_52, q_95_53, q_95_56, q_95_59, q_95_60, q_95_61, q_95_64, q_95_67, q_95_68, q_95_69, q_95_72, q_95_75, q_95_76, q_95_77, q_95_80, q_95_83, q_95_84, q_95_85, q_95_88, q_95_91, q_95_94, q_95_95, q_95_96, q_95_99, q_95_102, q_95_105, q_95_106, q_95_108, hcC, pm_some, Option.toList_some, Option.toList_none, List.cons_append, List.nil_append, pm_i0, pm_i1, Nat.reduceAdd, Nat.reduceMul, Int.toNat_natCast, Int.toNat_zero, not_true_eq_false, not_false_eq_true, and_self, true_and, and_true, ↓reduceIte, Int.reduceEq, Int.reduceLT, Int.reduceLE, Int.reduceNeg]
    · simp (disch := first | assumption | decide +kernel | omega | (split <;> omega)) only [q_160_0, q_160_1, q_160_44, q_160_45, q_160_48, q_160_49, q_160_50, q_160_51, q_160_52, q_160_55, q_160_56, q_160_57, q_160_60, q_160_61, q_160_62, q_160_65, q_160_66, q_160_67, q_160_70, q_160_71, q_160_72, q_160_75, q_160_76, q_160_77, q_160_80, q_160_81, q_160_83, hcR, pm_some, Option.toList_some, Option.toList_none, List.cons_append, List.nil_append, pm_i0, pm_i1, Nat.reduceAdd, Nat.reduceMul, Int.toNat_natCast, Int.toNat_zero, not_true_eq_false, not_false_eq_true, and_self, true_and, and_true, ↓reduceIte, Int.reduceEq, Int.reduceLT, Int.reduceLE, Int.reduceNeg]
  by_cases b4_ : b = 4
  · subst b4_
    refine Op.same hI (Z 190 15) (by omega) ?_ ?_
    · simp (disch := first | assumption | decide +kernel | omega | (split <;> omega)) only [q_95_0, q_95_1, q_95_44, q_95_45, q_95_48, q_95_51, q_95_52, q_95_53, q_95_56, q_95_59, q_95_60, q_95_61, q_95_64, q_95_67, q_95_68, q_95_69, q_95_72, q_95_75, q_95_76, q_95_77, q_95_80, q_95_83, q_95_84, q_95_85, q_95_88, q_95_91, q_95_94, q_95_95, q_95_96, q_95_99, q_95_102, q_95_105, q_95_106, q_95_108, hcC, pm_some, Option.toList_some, Option.toList_none, List.cons_append, List.nil_append, pm_i0, pm_i1, Nat.reduceAdd, Nat.reduceMul, Int.toNat_natCast, Int.toNat_zero, not_true_eq_false, not_false_eq_true, and_self, true_and, and_true, ↓reduceIte, Int.reduceEq, Int.reduceLT, Int.reduceLE, Int.reduceNeg, b1]
    · simp (disch := first | assumption | decide +kernel | omega | (split <;> omega)) only [q_160_0, q_160_1, q_160_44, q_160_45, q_160_48, q_160_49, q_160_50, q_160_51, q_160_52, q_160_55, q_160_56, q_160_57, q_160_60, q_160_61, q_160_62, q_160_65, q_160_66, q_160_67, q_160_70, q_160_71, q_160_72, q_160_75, q_160_76, q_160_77, q_160_80, q_160_81, q_160_83, hcR, pm_some, Option.toList_some, Option.toList_none, List.cons_append, List.nil_append, pm_i0, pm_i1, Nat.reduceAdd, Nat.reduceMul, Int.toNat_natCast, Int.toNat_zero, not_true_eq_false, not_false_eq_true, and_self, true_and, and_true, ↓reduceIte, Int.reduceEq, Int.reduceLT, Int.reduceLE, Int.reduceNeg]
  by_cases b5_ : b = 5
  · subst b5_
    refine Op.same hI (Z 190 5) (by omega) ?_ ?_
    · simp (disch := first | assumption | decide +kernel | omega | (split <;> omega)) only [q_95_0, q_95_1, q_95_44, q_95_45, q_95_48, q_95_51, q_95_52, q_95_53, q_95_56, q_95_59, q_95_60, q_95_61, q_95_64, q_95_67, q_95_68, q_95_69, q_95_72, q_95_75, q_95_76, q_95_77, q_95_80, q_95_83, q_95_84, q_95_85, q_95_88, q_95_91, q_95_94, q_95_95, q_95_96, q_95_99, q_95_102, q_95_105, q_95_106, q_95_108, hcC, pm_some, Option.toList_some, Option.toList_none, List.cons_append, List.nil_append, pm_i0, pm_i1, Nat.reduceAdd, Nat.reduceMul, Int.toNat_natCast, Int.toNat_zero, not_true_eq_false, not_false_eq_true, and_self, true_and, and_true, ↓reduceIte, Int.reduceEq, Int.reduceLT, Int.reduceLE, Int.reduceNeg, w7']
    · simp (disch := first | assumption | decide +kernel | omega | (split <;> omega)) only [q_160_0, q_160_1, q_160_44, q_160_45, q_160_48, q_160_49, q_160_50, q_160_51, q_160_52, q_160_55, q_160_56, q_160_57, q_160_60, q_160_61, q_160_62, q_160_65, q_160_66, q_160_67, q_160_70, q_160_71, q_160_72, q_160_75, q_160_76, q_160_77, q_160_80, q_160_81, q_160_83, hcR, pm_some, Option.toList_some, Option.toList_none, List.cons_append, List.nil_append, pm_i0, pm_i1, Nat.reduceAdd, Nat.reduceMul, Int.toNat_natCast, Int.toNat_zero, not_true_eq_false, not_false_eq_true, and_self, true_and, and_true, ↓reduceIte, Int.reduceEq, Int.reduceLT, Int.reduceLE, Int.reduceNeg]
  by_cases b6_ : b = 6
  · subst b6_
    refine Op.same hI (Z 190 9) (by omega) ?_ ?_
    · simp (disch := first | assumption | decide +kernel | omega | (split <;> omega)) only [q_95_0, q_95_1, q_95_44, q_95_45, q_95_48, q_95_51, q_95_52, q_95_53, q_95_56, q_95_59, q_95_60, q_95_61, q_95_64, q_95_67, q_95_68, q_95_69, q_95_72, q_95_75, q_95_76, q_95_77, q_95_80, q_95_83, q_95_84, q_95_85, q_95_88, q_95_91, q_95_94, q_95_95, q_95_96, q_95_99, q_95_102, q_95_105, q_95_106, q_95_108, hcC, pm_some, Option.toList_some, Option.toList_none, List.cons_append, List.nil_append, pm_i0, pm_i1, Nat.reduceAdd, Nat.reduceMul, Int.toNat_natCast, Int.toNat_zero, not_true_eq_false, not_false_eq_true, and_self, true_and, and_true, ↓reduceIte, Int.reduceEq, Int.reduceLT, Int.reduceLE, Int.reduceNeg, f1']
    · simp (disch := first | assumption | decide +kernel | omega | (split <;> omega)) only [q_160_0, q_160_1, q_160_44, q_160_45, q_160_48, q_160_49, q_160_50, q_160_51, q_160_52, q_160_55, q_160_56, q_160_57, q_160_60, q_160_61, q_160_62, q_160_65, q_160_66, q_160_67, q_160_70, q_160_71, q_160_72, q_160_75, q_160_76, q_160_77, q_160_80, q_160_81, q_160_83, hcR, pm_some, Option.toList_some, Option.toList_none, List.cons_append, List.nil_append, pm_i0, pm_i1, Nat.reduceAdd, Nat.reduceMul, Int.toNat_natCast, Int.toNat_zero, not_true_eq_false, not_false_eq_true, and_self, true_and, and_true, ↓reduceIte, Int.reduceEq, Int.reduceLT, Int.reduceLE, Int.reduceNeg]
  refine Op.same hI (-3) (by decide) ?_ ?_
  · simp (disch := first | assumption | decide +kernel | omega | (split <;> omega)) only [q_95_0, q_95_1, q_95_44, q_95_45, q_95_48, q_95_51, q_95_52, q_95_53, q_95_56, q_95_59, q_95_60, q_95_61, q_95_64, q_95_67, q_95_68, q_95_69, q_95_72, q_95_75, q_95_76, q_95_77, q_95_80, q_95_83, q_95_84, q_95_85, q_95_88, q_95_91, q_95_94, q_95_95, q_95_96, q_95_99, q_95_102, q_95_105, q_95_106, q_95_108, hcC, pm_some, Option.toList_some, Option.toList_none, List.cons_append, List.nil_append, pm_i0, pm_i1, Nat.reduceAdd, Nat.reduceMul, Int.toNat_natCast, Int.toNat_zero, not_true_eq_false, not_false_eq_true, and_self, true_and, and_true, ↓reduceIte, Int.reduceEq, Int.reduceLT, Int.reduceLE, Int.reduceNeg, b0_, b1_, b2_, b3_, b4_, b5_, b6_]
  · simp (disch := first | assumption | decide +kernel | omega | (split <;> omega)) only [q_160_0, q_160_1, q_160_44, q_160_45, q_160_48, q_160_49, q_160_50, q_160_51, q_160_52, q_160_55, q_160_56, q_160_57, q_160_60, q_160_61, q_160_62, q_160_65, q_160_66, q_160_67, q_160_70, q_160_71, q_160_72, q_160_75, q_160_76, q_160_77, q_160_80, q_160_81, q_160_83, hcR, pm_some, Option.toList_some, Option.toList_none, List.cons_append, List.nil_append, pm_i0, pm_i1, Nat.reduceAdd, Nat.reduceMul, Int.toNat_natCast, Int.toNat_zero, not_true_eq_false, not_false_eq_true, and_self, true_and, and_true, ↓reduceIte, Int.reduceEq, Int.reduceLT, Int.reduceLE, Int.reduceNeg, b0_, b1_, b2_, b3_, b4_, b5_, b6_]
