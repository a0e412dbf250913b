/-! forecasts -/
theorem l_putAside (L : Nat) (W : Nat → Nat) : ∀ (n k : Nat) (Z : Nat → Nat → Int), k + n = 2711 → ∃ Z', pm_D (163, 2, [.ref 190, .int (pm_J (k : Int))], [], pm_hp L Z W) = some (none, pm_hp L Z' W) ∧ (∀ a, a ≠ 192 → Z' a = Z a) ∧ ∀ q : Nat, Z' 192 q = if k ≤ q ∧ q < 2711 then Z 191 q else Z 192 q := by
  intro n
  induction n with
  | zero =>
    intro k Z hk
    obtain rfl : k = 2711 := by omega
    refine ⟨Z, ?_, fun _ _ => rfl, fun q => by rw [if_neg (by omega)]⟩
    rw [q_163_2]
    simp (disch := first | assumption | decide +kernel | omega | (split <;> omega)) only [q_163_0, q_163_1, q_163_3, q_163_6, q_163_9, q_163_10, q_163_13, q_163_14, q_163_15, q_163_18, q_163_19, q_163_20, q_163_21, q_163_24, q_163_27, pm_some, Option.toList_some, Option.toList_none, List.cons_append, List.nil_append, pm_i0, pm_i1, Nat.reduceAdd, Nat.reduceMul, Int.toNat_natCast, Int.toNat_zero, not_true_eq_false, not_false_eq_true, and_self, true_and, and_true, ↓reduceIte, Int.reduceEq, Int.reduceLT, Int.reduceLE, Int.reduceNeg, Bool.false_eq_true, Int.lt_irrefl, Int.cast_ofNat_Int]
  | succ n ih =>
    intro k Z hk
    have hlt : (k : Int) < 2711 := by omega
    obtain ⟨Z', e, f, g⟩ := ih (k + 1) (pm_up Z 192 k (Z 191 k)) (by omega)
    rw [show (((k + 1 : Nat)) : Int) = (k : Int) + 1 by omega] at e
    refine ⟨Z', ?_, fun a ha => by rw [f a ha, pm_up_row ha], fun q => ?_⟩
    · rw [q_163_2]
      simp (disch := first | assumption | decide +kernel | omega | (split <;> omega)) only [q_163_0, q_163_1, q_163_3, q_163_6, q_163_9, q_163_10, q_163_13, q_163_14, q_163_15, q_163_18, q_163_19, q_163_20, q_163_21, q_163_24, q_163_27, pm_some, Option.toList_some, Option.toList_none, List.cons_append, List.nil_append, pm_i0, pm_i1, Nat.reduceAdd, Nat.reduceMul, Int.toNat_natCast, Int.toNat_zero, not_true_eq_false, not_false_eq_true, and_self, true_and, and_true, ↓reduceIte, Int.reduceEq, Int.reduceLT, Int.reduceLE, Int.reduceNeg, Bool.false_eq_true, hlt, e]
    · rw [g q, pm_up_row (show 191 ≠ 192 by decide)]
      by_cases c : q = k
      · subst c
        rw [if_neg (by omega), if_pos (by omega), pm_up_same]
      · rw [pm_up_ne (by omega)]
        by_cases c2 : k ≤ q ∧ q < 2711
        · rw [if_pos (by omega), if_pos c2]
        · rw [if_neg (by omega), if_neg c2]
theorem c_putAside (L : Nat) (Z : Nat → Nat → Int) (W : Nat → Nat) : ∃ Z', pm_D (163, 0, [.ref 190, .null], [], pm_hp L Z W) = some (none, pm_hp L Z' W) ∧ (∀ a, a ≠ 192 → Z' a = Z a) ∧ ∀ q : Nat, Z' 192 q = if q < 2711 then Z 191 q else Z 192 q := by
  obtain ⟨Z', e, f, g⟩ := l_putAside L W 2711 0 Z rfl
  refine ⟨Z', ?_, f, fun q => ?_⟩
  · rw [q_163_0, q_163_1]
    exact e
  · rw [g q]
    by_cases c : q < 2711
    · rw [if_pos ⟨Nat.zero_le _, c⟩, if_pos c]
    · rw [if_neg (fun h => c h.2), if_neg c]
theorem l_takeBack (L : Nat) (W : Nat → Nat) : ∀ (n k : Nat) (Z : Nat → Nat → Int), k + n = 2711 → ∃ Z', pm_D (164, 2, [.ref 190, .int (pm_J (k : Int))], [], pm_hp L Z W) = some (none, pm_hp L Z' W) ∧ (∀ a, a ≠ 191 → Z' a = Z a) ∧ ∀ q : Nat, Z' 191 q = if k ≤ q ∧ q < 2711 then Z 192 q else Z 191 q := by
  intro n
  induction n with
  | zero =>
    intro k Z hk
    obtain rfl : k = 2711 := by omega
    refine ⟨Z, ?_, fun _ _ => rfl, fun q => by rw [if_neg (by omega)]⟩
    rw [q_164_2]
    simp (disch := first | assumption | decide +kernel | omega | (split <;> omega)) only [q_164_0, q_164_1, q_164_3, q_164_6, q_164_9, q_164_10, q_164_13, q_164_14, q_164_15, q_164_18, q_164_19, q_164_20, q_164_21, q_164_24, q_164_27, pm_some, Option.toList_some, Option.toList_none, List.cons_append, List.nil_append, pm_i0, pm_i1, Nat.reduceAdd, Nat.reduceMul, Int.toNat_natCast, Int.toNat_zero, not_true_eq_false, not_false_eq_true, and_self, true_and, and_true, ↓reduceIte, Int.reduceEq, Int.reduceLT, Int.reduceLE, Int.reduceNeg, Bool.false_eq_true, Int.lt_irrefl, Int.cast_ofNat_Int]
  | succ n ih =>
    intro k Z hk
    have hlt : (k : Int) < 2711 := by omega
    obtain ⟨Z', e, f, g⟩ := ih (k + 1) (pm_up Z 191 k (Z 192 k)) (by omega)
    rw [show (((k + 1 : Nat)) : Int) = (k : Int) + 1 by omega] at e
    refine ⟨Z', ?_, fun a ha => by rw [f a ha, pm_up_row ha], fun q => ?_⟩
    · rw [q_164_2]
      simp (disch := first | assumption | decide +kernel | omega | (split <;> omega)) only [q_164_0, q_164_1, q_164_3, q_164_6, q_164_9, q_164_10, q_164_13, q_164_14, q_164_15, q_164_18, q_164_19, q_164_20, q_164_21, q_164_24, q_164_27, pm_some, Option.toList_some, Option.toList_none, List.cons_append, List.nil_append, pm_i0, pm_i1, Nat.reduceAdd, Nat.reduceMul, Int.toNat_natCast, Int.toNat_zero, not_true_eq_false, not_false_eq_true, and_self, true_and, and_true, ↓reduceIte, Int.reduceEq, Int.reduceLT, Int.reduceLE, Int.reduceNeg, Bool.false_eq_true, hlt, e]
    · rw [g q, pm_up_row (show 192 ≠ 191 by decide)]
      by_cases c : q = k
      · subst c
        rw [if_neg (by omega), if_pos (by omega), pm_up_same]
      · rw [pm_up_ne (by omega)]
        by_cases c2 : k ≤ q ∧ q < 2711
        · rw [if_pos (by omega), if_pos c2]
        · rw [if_neg (by omega), if_neg c2]
theorem c_takeBack (L : Nat) (Z : Nat → Nat → Int) (W : Nat → Nat) : ∃ Z', pm_D (164, 0, [.ref 190, .null], [], pm_hp L Z W) = some (none, pm_hp L Z' W) ∧ (∀ a, a ≠ 191 → Z' a = Z a) ∧ ∀ q : Nat, Z' 191 q = if q < 2711 then Z 192 q else Z 191 q := by
  obtain ⟨Z', e, f, g⟩ := l_takeBack L W 2711 0 Z rfl
  refine ⟨Z', ?_, f, fun q => ?_⟩
  · rw [q_164_0, q_164_1]
    exact e
  · rw [g q]
    by_cases c : q < 2711
    · rw [if_pos ⟨Nat.zero_le _, c⟩, if_pos c]
    · rw [if_neg (fun h => c h.2), if_neg c]

theorem l_await (m : Nat) (L : Nat) (W : Nat → Nat) : ∀ (n k : Nat) (T : Int) (Z : Nat → Nat → Int), lr 118 T Z → Z 190 29 = -1 → 0 ≤ T → T + n ≤ 900000 → (m : Int) < Z 190 22 → k + n = 2000 → ∃ (T' : Int) (V : Nat → Nat → Int), lr 118 T' V ∧ T' ≤ T + n ∧ V 190 22 = Z 190 22 ∧ (Z 191 (1 + m) ≠ 2 → V 191 (1 + m) ≠ 2) ∧ (Z 191 (1 + m) ≠ 0 → V = Z) ∧ (∀ Y, AgC 118 Y Z → ∃ (Y' : Nat → Nat → Int) (k' : Int), pm_D (34, 9, [.ref 118, .int (pm_J (m : Int)), .ref (118 + 9 + 6 + 5 * m), .int (pm_J (k : Int))], [], pm_hp L Y W) = pm_D (34, 33, [.ref 118, .int (pm_J (m : Int)), .ref (118 + 9 + 6 + 5 * m), .int (pm_J k')], [], pm_hp L Y' W) ∧ AgC 118 Y' V ∧ FrC 118 Y Y') ∧ (∀ Y, AgR Y Z → ∃ (Y' : Nat → Nat → Int) (k' : Int), pm_D (165, 41, [.ref 190, .int (pm_J (m : Int)), .int (pm_J (k : Int))], [], pm_hp L Y W) = pm_D (165, 66, [.ref 190, .int (pm_J (m : Int)), .int (pm_J k')], [], pm_hp L Y' W) ∧ AgR Y' V ∧ FrR Y Y') := by
  intro n
  induction n with
  | zero =>
    intro k T Z H hon T0 T1 hm hk
    obtain rfl : k = 2000 := by omega
    refine ⟨T, Z, H, by omega, rfl, fun q => q, fun _ => rfl, fun Y A => ⟨Y, 2000, ?_, A, FrC.rfl⟩, fun Y A => ⟨Y, 2000, ?_, A, FrR.rfl⟩⟩
    · rw [q_34_9]
      simp (disch := first | assumption | decide +kernel | omega | (split <;> omega)) only [q_34_0, q_34_1, q_34_4, q_34_5, q_34_6, q_34_7, q_34_8, q_34_10, q_34_13, q_34_16, q_34_17, q_34_20, q_34_23, q_34_24, q_34_27, q_34_30, q_34_34, q_34_37, pm_some, Option.toList_some, Option.toList_none, List.cons_append, List.nil_append, pm_i0, pm_i1, Nat.reduceAdd, Nat.reduceMul, Int.toNat_natCast, Int.toNat_zero, not_true_eq_false, not_false_eq_true, and_self, true_and, and_true, ↓reduceIte, Int.reduceEq, Int.reduceLT, Int.reduceLE, Int.reduceNeg, Bool.false_eq_true, Int.lt_irrefl, Int.cast_ofNat_Int]
    · rw [q_165_41]
      simp (disch := first | assumption | decide +kernel | omega | (split <;> omega)) only [q_165_0, q_165_1, q_165_2, q_165_5, q_165_8, q_165_9, q_165_12, q_165_13, q_165_14, q_165_15, q_165_16, q_165_17, q_165_20, q_165_21, q_165_24, q_165_26, q_165_27, q_165_28, q_165_29, q_165_32, q_165_34, q_165_35, q_165_36, q_165_39, q_165_40, q_165_42, q_165_45, q_165_48, q_165_49, q_165_50, q_165_53, q_165_56, q_165_57, q_165_60, q_165_63, q_165_67, q_165_68, q_165_71, q_165_74, q_165_76, q_165_79, q_165_80, q_165_83, q_165_85, q_165_86, q_165_87, q_165_88, q_165_89, q_165_90, q_165_93, q_165_94, pm_some, Option.toList_some, Option.toList_none, List.cons_append, List.nil_append, pm_i0, pm_i1, Nat.reduceAdd, Nat.reduceMul, Int.toNat_natCast, Int.toNat_zero, not_true_eq_false, not_false_eq_true, and_self, true_and, and_true, ↓reduceIte, Int.reduceEq, Int.reduceLT, Int.reduceLE, Int.reduceNeg, Bool.false_eq_true, Int.lt_irrefl, Int.cast_ofNat_Int]
  | succ n ih =>
    intro k T Z H hon T0 T1 hm hk
    have hlt : (k : Int) < 2000 := by omega
    obtain ⟨⟨a1, a2, a3, a4, a5, a6, a7, a8, a9, -⟩, -, -, hms, -⟩ := id H
    have m10 : m < 10 := by omega
    obtain ⟨km, -⟩ := pm_kdM (o := 118) (n := m) (Or.inr rfl) m10
    obtain ⟨-, ⟨d1, d2, d3, -⟩, -⟩ := hms m hm
    have e1 : (1 + (m : Int)).toNat = 1 + m := by omega
    have hCu : ∀ Y, AgC 118 Y Z → pm_D (42, 0, [.ref (118 + 9 + 6 + 5 * m)], [], pm_hp L Y W) = some (some (.int (pm_J (if Z 191 (1 + m) = 0 then 1 else 0))), pm_hp L Y W) := fun Y A => by
      have y := A (118 + 9 + 6 + 5 * m) (by omega) (by omega)
      have h := c_isUnderWay (118 + 9 + 6 + 5 * m) L Y W km (by rw [y]; omega)
      rw [y, d1] at h
      exact h
    have hRu : ∀ Y, AgR Y Z → pm_D (133, 0, [.ref 190, .int (pm_J (m : Int))], [], pm_hp L Y W) = some (some (.int (pm_J (if Z 191 (1 + m) = 0 then 1 else 0))), pm_hp L Y W) := fun Y A => by
      have y := A 191 (by omega) (by omega)
      have h := c_R_isUnderWay (m : Int) L Y W (by omega) (by omega) (by rw [y, e1]; omega)
      rw [y, e1] at h
      exact h
    by_cases hu : Z 191 (1 + m) = 0
    · rw [if_pos hu] at hCu hRu
      obtain ⟨V, HV, vn, vs, HC, HR⟩ := minute (o := 118) (Or.inr rfl) H hon T0 (by omega) L W
      have v190 : V 190 = Z 190 := by
        obtain ⟨Y, -, A, F⟩ := HR Z (fun _ _ _ => rfl)
        rw [← A 190 (by omega) (by omega)]
        exact F.1 190 (by omega) (by omega) (by omega)
      obtain ⟨T', V', HV', t', n', s', -, HC', HR'⟩ := ih (k + 1) (T + 1) V HV vn (by omega) (by omega) (by rw [v190]; exact hm) (by omega)
      refine ⟨T', V', HV', by omega, by rw [n', v190], fun q => s' (by rcases vs m hm with h | h <;> omega), fun q => absurd hu q, fun Y A => ?_, fun Y A => ?_⟩
      · obtain ⟨Y1, x1, A1, F1⟩ := HC Y A
        obtain ⟨Y2, k2, x2, A2, F2⟩ := HC' Y1 A1
        rw [show (((k + 1 : Nat)) : Int) = (k : Int) + 1 by omega] at x2
        refine ⟨Y2, k2, ?_, A2, FrC.trans F1 F2⟩
        have hcu := hCu Y A
        rw [q_34_9]
        simp (disch := first | assumption | decide +kernel | omega | (split <;> omega)) only [q_34_0, q_34_1, q_34_4, q_34_5, q_34_6, q_34_7, q_34_8, q_34_10, q_34_13, q_34_16, q_34_17, q_34_20, q_34_23, q_34_24, q_34_27, q_34_30, q_34_34, q_34_37, pm_some, Option.toList_some, Option.toList_none, List.cons_append, List.nil_append, pm_i0, pm_i1, Nat.reduceAdd, Nat.reduceMul, Int.toNat_natCast, Int.toNat_zero, not_true_eq_false, not_false_eq_true, and_self, true_and, and_true, ↓reduceIte, Int.reduceEq, Int.reduceLT, Int.reduceLE, Int.reduceNeg, Bool.false_eq_true, hlt, hcu, x1]
        exact x2
      · obtain ⟨Y1, x1, A1, F1⟩ := HR Y A
        obtain ⟨Y2, k2, x2, A2, F2⟩ := HR' Y1 A1
        rw [show (((k + 1 : Nat)) : Int) = (k : Int) + 1 by omega] at x2
        refine ⟨Y2, k2, ?_, A2, FrR.trans F1 F2⟩
        have hru := hRu Y A
        rw [q_165_41]
        simp (disch := first | assumption | decide +kernel | omega | (split <;> omega)) only [q_165_0, q_165_1, q_165_2, q_165_5, q_165_8, q_165_9, q_165_12, q_165_13, q_165_14, q_165_15, q_165_16, q_165_17, q_165_20, q_165_21, q_165_24, q_165_26, q_165_27, q_165_28, q_165_29, q_165_32, q_165_34, q_165_35, q_165_36, q_165_39, q_165_40, q_165_42, q_165_45, q_165_48, q_165_49, q_165_50, q_165_53, q_165_56, q_165_57, q_165_60, q_165_63, q_165_67, q_165_68, q_165_71, q_165_74, q_165_76, q_165_79, q_165_80, q_165_83, q_165_85, q_165_86, q_165_87, q_165_88, q_165_89, q_165_90, q_165_93, q_165_94, pm_some, Option.toList_some, Option.toList_none, List.cons_append, List.nil_append, pm_i0, pm_i1, Nat.reduceAdd, Nat.reduceMul, Int.toNat_natCast, Int.toNat_zero, not_true_eq_false, not_false_eq_true, and_self, true_and, and_true, ↓reduceIte, Int.reduceEq, Int.reduceLT, Int.reduceLE, Int.reduceNeg, Bool.false_eq_true, hlt, hru, x1]
        exact x2
    · rw [if_neg hu] at hCu hRu
      refine ⟨T, Z, H, by omega, rfl, fun q => q, fun _ => rfl, fun Y A => ⟨Y, (k : Int), ?_, A, FrC.rfl⟩, fun Y A => ⟨Y, (k : Int), ?_, A, FrR.rfl⟩⟩
      · have hcu := hCu Y A
        rw [q_34_9]
        simp (disch := first | assumption | decide +kernel | omega | (split <;> omega)) only [q_34_0, q_34_1, q_34_4, q_34_5, q_34_6, q_34_7, q_34_8, q_34_10, q_34_13, q_34_16, q_34_17, q_34_20, q_34_23, q_34_24, q_34_27, q_34_30, q_34_34, q_34_37, pm_some, Option.toList_some, Option.toList_none, List.cons_append, List.nil_append, pm_i0, pm_i1, Nat.reduceAdd, Nat.reduceMul, Int.toNat_natCast, Int.toNat_zero, not_true_eq_false, not_false_eq_true, and_self, true_and, and_true, ↓reduceIte, Int.reduceEq, Int.reduceLT, Int.reduceLE, Int.reduceNeg, Bool.false_eq_true, hlt, hcu]
      · have hru := hRu Y A
        rw [q_165_41]
        simp (disch := first | assumption | decide +kernel | omega | (split <;> omega)) only [q_165_0, q_165_1, q_165_2, q_165_5, q_165_8, q_165_9, q_165_12, q_165_13, q_165_14, q_165_15, q_165_16, q_165_17, q_165_20, q_165_21, q_165_24, q_165_26, q_165_27, q_165_28, q_165_29, q_165_32, q_165_34, q_165_35, q_165_36, q_165_39, q_165_40, q_165_42, q_165_45, q_165_48, q_165_49, q_165_50, q_165_53, q_165_56, q_165_57, q_165_60, q_165_63, q_165_67, q_165_68, q_165_71, q_165_74, q_165_76, q_165_79, q_165_80, q_165_83, q_165_85, q_165_86, q_165_87, q_165_88, q_165_89, q_165_90, q_165_93, q_165_94, pm_some, Option.toList_some, Option.toList_none, List.cons_append, List.nil_append, pm_i0, pm_i1, Nat.reduceAdd, Nat.reduceMul, Int.toNat_natCast, Int.toNat_zero, not_true_eq_false, not_false_eq_true, and_self, true_and, and_true, ↓reduceIte, Int.reduceEq, Int.reduceLT, Int.reduceLE, Int.reduceNeg, Bool.false_eq_true, hlt, hru]
/-- the answer of a forecast: the class, and the model's loop -/
theorem await_x {m : Nat} {T : Int} {Z : Nat → Nat → Int} (H : lr 118 T Z) (hon : Z 190 29 = -1) (T0 : 0 ≤ T) (T1 : T ≤ 800000) (hm : (m : Int) < Z 190 22) (L : Nat) (W : Nat → Nat) : ∃ x : Int, (-6 ≤ x ∧ x ≤ 900000) ∧ (∀ Y, AgC 118 Y Z → ∃ Y', pm_D (34, 0, [.ref 118, .int (pm_J (m : Int)), .null, .null], [], pm_hp L Y W) = some (some (.int (pm_J x)), pm_hp L Y' W) ∧ FrC 118 Y Y') ∧ (Z 191 (1 + m) = 0 → ∀ Y, AgR Y Z → ∃ (Y' : Nat → Nat → Int) (k' : Int), pm_D (165, 41, [.ref 190, .int (pm_J (m : Int)), .int (pm_J 0)], [], pm_hp L Y W) = pm_D (165, 88, [.ref 190, .int (pm_J (m : Int)), .int (pm_J k')], [.int (pm_J x)], pm_hp L Y' W) ∧ FrR Y Y') ∧ (Z 191 (1 + m) ≠ 0 → x = if Z 191 (1 + m) = 1 then Z 191 (11 + m) else -6) := by
  obtain ⟨T', V, HV, ht', hn', hs', hv', HC, HR⟩ := l_await m L W 2000 0 T Z H hon T0 (by omega) hm rfl
  rw [show (((0 : Nat)) : Int) = 0 from rfl] at HC HR
  have a9 := H.1.2.2.2.2.2.2.2.2.1
  have m10 : m < 10 := by omega
  obtain ⟨km, -⟩ := pm_kdM (o := 118) (n := m) (Or.inr rfl) m10
  obtain ⟨k1, k2, k3, k4, k5, -⟩ := pm_kdL (o := 118) (Or.inr rfl)
  obtain ⟨-, ⟨d1, d2, d3, d4, d5, d6, -⟩, -⟩ := HV.2.2.2.1 m (by rw [hn']; exact hm)
  obtain ⟨-, ⟨z1, z2, z3, z4, z5, z6, -⟩, -⟩ := H.2.2.2.1 m hm
  have e1 : (1 + (m : Int)).toNat = 1 + m := by omega
  have e2 : (11 + (m : Int)).toNat = 11 + m := by omega
  refine ⟨if V (118 + 9 + 6 + 5 * m) 7 = 1 then V (118 + 9 + 6 + 5 * m) 9 else -6, by split <;> omega, fun Y A => ?_, fun hu Y A => ?_, fun hu => ?_⟩
  · obtain ⟨Y', k', e, A', F'⟩ := HC Y A
    refine ⟨Y', ?_, F'⟩
    have y := A' (118 + 9 + 6 + 5 * m) (by omega) (by omega)
    have h := c_arrivalOrNone (118 + 9 + 6 + 5 * m) L Y' W km (by rw [y]; omega)
    rw [y] at h
    have h33 : pm_D (34, 33, [.ref 118, .int (pm_J (m : Int)), .ref (118 + 9 + 6 + 5 * m), .int (pm_J k')], [], pm_hp L Y' W) = some (some (.int (pm_J (if V (118 + 9 + 6 + 5 * m) 7 = 1 then V (118 + 9 + 6 + 5 * m) 9 else -6))), pm_hp L Y' W) := by
      simp (disch := first | assumption | decide +kernel | omega | (split <;> omega)) only [q_34_0, q_34_1, q_34_4, q_34_5, q_34_6, q_34_7, q_34_8, q_34_10, q_34_13, q_34_16, q_34_17, q_34_20, q_34_23, q_34_24, q_34_27, q_34_30, q_34_33, q_34_34, q_34_37, h, pm_some, Option.toList_some, List.cons_append, List.nil_append]
    rw [← h33, ← e]
    simp (disch := first | assumption | decide +kernel | omega) only [q_34_0, q_34_1, q_34_4, q_34_5, q_34_6, q_34_7, q_34_8, q_34_10, q_34_13, q_34_16, q_34_17, q_34_20, q_34_23, q_34_24, q_34_27, q_34_30, q_34_34, q_34_37, Int.toNat_natCast]
  · obtain ⟨Y', k', e, A', F'⟩ := HR Y A
    refine ⟨Y', k', ?_, F'⟩
    rw [e]
    have y := A' 191 (by omega) (by omega)
    have h2 := hs' (by omega)
    have h := c_R_isUnderWay (m : Int) L Y' W (by omega) (by omega) (by rw [y, e1]; omega)
    rw [y, e1, ← d1] at h
    have y11 : Y' 191 (11 + m) = V 191 (11 + m) := by rw [y]
    rcases (show V (118 + 9 + 6 + 5 * m) 7 = 0 ∨ V (118 + 9 + 6 + 5 * m) 7 = 1 by omega) with c | c
    · rw [c, if_pos rfl] at h
      rw [c]
      simp (disch := first | assumption | decide +kernel | omega | (split <;> omega)) only [q_165_0, q_165_1, q_165_2, q_165_5, q_165_8, q_165_9, q_165_12, q_165_13, q_165_14, q_165_15, q_165_16, q_165_17, q_165_20, q_165_21, q_165_24, q_165_26, q_165_27, q_165_28, q_165_29, q_165_32, q_165_34, q_165_35, q_165_36, q_165_39, q_165_40, q_165_42, q_165_45, q_165_48, q_165_49, q_165_50, q_165_53, q_165_56, q_165_57, q_165_60, q_165_63, q_165_66, q_165_67, q_165_68, q_165_71, q_165_74, q_165_76, q_165_79, q_165_80, q_165_83, q_165_85, q_165_86, q_165_87, q_165_89, q_165_90, q_165_93, q_165_94, pm_some, Option.toList_some, Option.toList_none, List.cons_append, List.nil_append, pm_i0, pm_i1, Nat.reduceAdd, Nat.reduceMul, Int.toNat_natCast, Int.toNat_zero, not_true_eq_false, not_false_eq_true, and_self, true_and, and_true, ↓reduceIte, Int.reduceEq, Int.reduceLT, Int.reduceLE, Int.reduceNeg, Bool.false_eq_true, h]
    · rw [c, if_neg (by decide)] at h
      rw [c, d4 c]
      simp (disch := first | assumption | decide +kernel | omega | (split <;> omega)) only [q_165_0, q_165_1, q_165_2, q_165_5, q_165_8, q_165_9, q_165_12, q_165_13, q_165_14, q_165_15, q_165_16, q_165_17, q_165_20, q_165_21, q_165_24, q_165_26, q_165_27, q_165_28, q_165_29, q_165_32, q_165_34, q_165_35, q_165_36, q_165_39, q_165_40, q_165_42, q_165_45, q_165_48, q_165_49, q_165_50, q_165_53, q_165_56, q_165_57, q_165_60, q_165_63, q_165_66, q_165_67, q_165_68, q_165_71, q_165_74, q_165_76, q_165_79, q_165_80, q_165_83, q_165_85, q_165_86, q_165_87, q_165_89, q_165_90, q_165_93, q_165_94, pm_some, Option.toList_some, Option.toList_none, List.cons_append, List.nil_append, pm_i0, pm_i1, Nat.reduceAdd, Nat.reduceMul, Int.toNat_natCast, Int.toNat_zero, not_true_eq_false, not_false_eq_true, and_self, true_and, and_true, ↓reduceIte, Int.reduceEq, Int.reduceLT, Int.reduceLE, Int.reduceNeg, Bool.false_eq_true, h, e2, y11]
  · rw [hv' hu, z1]
    by_cases c : Z 191 (1 + m) = 1
    · rw [if_pos c, if_pos c, z4 (by omega)]
    · rw [if_neg c, if_neg c]
theorem fore {m : Nat} {T : Int} {Z : Nat → Nat → Int} (H : lr 118 T Z) (hon : Z 190 29 = -1) (T0 : 0 ≤ T) (T1 : T ≤ 800000) (hm : (m : Int) < Z 190 22) (L : Nat) (W : Nat → Nat) : ∃ x : Int, (-6 ≤ x ∧ x ≤ 900000) ∧ (∀ Y, AgC 118 Y Z → ∃ Y', pm_D (34, 0, [.ref 118, .int (pm_J (m : Int)), .null, .null], [], pm_hp L Y W) = some (some (.int (pm_J x)), pm_hp L Y' W) ∧ FrC 118 Y Y') ∧ (∀ Y, (∀ a, 190 ≤ a → a < 210 → a ≠ 192 → Y a = Z a) → ∃ Y', pm_D (165, 0, [.ref 190, .int (pm_J (m : Int)), .null], [], pm_hp L Y W) = some (some (.int (pm_J x)), pm_hp L Y' W) ∧ Y' 191 = Y 191 ∧ ∀ a, a ≠ 191 → a ≠ 192 → a ≠ 210 → a ≠ 211 → Y' a = Y a) := by
  obtain ⟨x, hx, HC, HR, HN⟩ := await_x H hon T0 T1 hm L W
  have a9 := H.1.2.2.2.2.2.2.2.2.1
  have m10 : m < 10 := by omega
  obtain ⟨-, ⟨d1, d2, d3, d4, d5, d6, -⟩, -⟩ := H.2.2.2.1 m hm
  have e1 : (1 + (m : Int)).toNat = 1 + m := by omega
  have e2 : (11 + (m : Int)).toNat = 11 + m := by omega
  refine ⟨x, hx, HC, fun Y hY => ?_⟩
  have y191 := hY 191 (by omega) (by omega) (by omega)
  have h := c_R_isUnderWay (m : Int) L Y W (by omega) (by omega) (by rw [y191, e1]; omega)
  rw [y191, e1] at h
  by_cases hu : Z 191 (1 + m) = 0
  · rw [if_pos hu] at h
    obtain ⟨Y1, p1, p2, p3⟩ := c_putAside L Y W
    obtain ⟨Zy, hZy⟩ : ∃ U : Nat → Nat → Int, U = fun a => if a = 192 ∨ a = 210 ∨ a = 211 then Y1 a else Z a := ⟨_, rfl⟩
    have zy1 : ∀ a, a ≠ 192 → a ≠ 210 → a ≠ 211 → Zy a = Z a := fun a h1 h2 h3 => by
      rw [hZy]
      show (if _ then _ else _) = _
      rw [if_neg (by omega)]
    have zy2 : ∀ a, a = 192 ∨ a = 210 ∨ a = 211 → Zy a = Y1 a := fun a h => by
      rw [hZy]
      show (if _ then _ else _) = _
      rw [if_pos h]
    have z190 := zy1 190 (by omega) (by omega) (by omega)
    have z191 := zy1 191 (by omega) (by omega) (by omega)
    have Hy : lr 118 T Zy := lr_congr H (fun b _ _ => zy1 b (by omega) (by omega) (by omega)) (by rw [z190]) (by rw [z190]) (by rw [z190]) (by rw [z190]) (by rw [z190]) (by rw [z190]) z191 (fun b _ _ => zy1 b (by omega) (by omega) (by omega)) (fun b _ _ => zy1 b (by omega) (by omega) (by omega))
    obtain ⟨x', hx', HC', HR', -⟩ := await_x Hy (by rw [z190]; exact hon) T0 T1 (by rw [z190]; exact hm) L W
    have hxx : x' = x := by
      obtain ⟨A1, c1, -⟩ := HC Z (fun _ _ _ => rfl)
      obtain ⟨A2, c2, -⟩ := HC' Z (fun a h1 h2 => (zy1 a (by omega) (by omega) (by omega)).symm)
      rw [c1] at c2
      have := (Value.int.inj (Option.some.inj (congrArg Prod.fst (Option.some.inj c2))))
      exact ((pm_J_eq (by omega) (by omega) (by omega) (by omega)).mp this).symm
    rw [hxx] at HR'
    have AR : AgR Y1 Zy := fun a h1 h2 => by
      by_cases c : a = 192 ∨ a = 210 ∨ a = 211
      · rw [zy2 a c]
      · rw [zy1 a (by omega) (by omega) (by omega), p2 a (by omega), hY a h1 (by omega) (by omega)]
    obtain ⟨Y2, k', r1, r2⟩ := HR' (by rw [z191]; exact hu) Y1 AR
    obtain ⟨Y3, s1, s2, s3⟩ := c_takeBack L Y2 W
    refine ⟨Y3, ?_, ?_, fun a h1 h2 h3 h4 => by rw [s2 a h1, r2.1 a h1 h3 h4, p2 a h2]⟩
    · have h88 : pm_D (165, 88, [.ref 190, .int (pm_J (m : Int)), .int (pm_J k')], [.int (pm_J x)], pm_hp L Y2 W) = some (some (.int (pm_J x)), pm_hp L Y3 W) := by
        simp (disch := first | assumption | decide +kernel | omega | (split <;> omega)) only [q_165_0, q_165_1, q_165_2, q_165_5, q_165_8, q_165_9, q_165_12, q_165_13, q_165_14, q_165_15, q_165_16, q_165_17, q_165_20, q_165_21, q_165_24, q_165_26, q_165_27, q_165_28, q_165_29, q_165_32, q_165_34, q_165_35, q_165_36, q_165_39, q_165_40, q_165_42, q_165_45, q_165_48, q_165_49, q_165_50, q_165_53, q_165_56, q_165_57, q_165_60, q_165_63, q_165_66, q_165_67, q_165_68, q_165_71, q_165_74, q_165_76, q_165_79, q_165_80, q_165_83, q_165_85, q_165_86, q_165_87, q_165_88, q_165_89, q_165_90, q_165_93, q_165_94, pm_some, Option.toList_some, Option.toList_none, List.cons_append, List.nil_append, pm_i0, pm_i1, Nat.reduceAdd, Nat.reduceMul, Int.toNat_natCast, Int.toNat_zero, s1]
      simp (disch := first | assumption | decide +kernel | omega | (split <;> omega)) only [q_165_0, q_165_1, q_165_2, q_165_5, q_165_8, q_165_9, q_165_12, q_165_13, q_165_14, q_165_15, q_165_16, q_165_17, q_165_20, q_165_21, q_165_24, q_165_26, q_165_27, q_165_28, q_165_29, q_165_32, q_165_34, q_165_35, q_165_36, q_165_39, q_165_40, q_165_42, q_165_45, q_165_48, q_165_49, q_165_50, q_165_53, q_165_56, q_165_57, q_165_60, q_165_63, q_165_66, q_165_67, q_165_68, q_165_71, q_165_74, q_165_76, q_165_79, q_165_80, q_165_83, q_165_85, q_165_86, q_165_87, q_165_89, q_165_90, q_165_93, q_165_94, pm_some, Option.toList_some, Option.toList_none, List.cons_append, List.nil_append, pm_i0, pm_i1, Nat.reduceAdd, Nat.reduceMul, Int.toNat_natCast, Int.toNat_zero, not_true_eq_false, not_false_eq_true, and_self, true_and, and_true, ↓reduceIte, Int.reduceEq, Int.reduceLT, Int.reduceLE, Int.reduceNeg, Bool.false_eq_true, h, p1]
      rw [r1]
      exact h88
    · funext q
      rw [s3 q]
      by_cases c : q < 2711
      · rw [if_pos c, r2.1 192 (by omega) (by omega) (by omega), p3 q, if_pos c]
      · rw [if_neg c, r2.2 q (by omega), p2 191 (by omega)]
  · rw [if_neg hu] at h
    have hN := HN hu
    refine ⟨Y, ?_, rfl, fun _ _ _ _ _ => rfl⟩
    have y1 : Y 191 (1 + m) = Z 191 (1 + m) := by rw [y191]
    have y11 : Y 191 (11 + m) = Z 191 (11 + m) := by rw [y191]
    have r1 : pm_r (Z 191 (1 + m)) := by omega
    by_cases c : Z 191 (1 + m) = 1
    · rw [if_pos c] at hN
      rw [hN]
      simp (disch := first | assumption | decide +kernel | omega | (split <;> omega)) only [q_165_0, q_165_1, q_165_2, q_165_5, q_165_8, q_165_9, q_165_12, q_165_13, q_165_14, q_165_15, q_165_16, q_165_17, q_165_20, q_165_21, q_165_24, q_165_26, q_165_27, q_165_28, q_165_29, q_165_32, q_165_34, q_165_35, q_165_36, q_165_39, q_165_40, q_165_42, q_165_45, q_165_48, q_165_49, q_165_50, q_165_53, q_165_56, q_165_57, q_165_60, q_165_63, q_165_66, q_165_67, q_165_68, q_165_71, q_165_74, q_165_76, q_165_79, q_165_80, q_165_83, q_165_85, q_165_86, q_165_87, q_165_88, q_165_89, q_165_90, q_165_93, q_165_94, pm_some, Option.toList_some, Option.toList_none, List.cons_append, List.nil_append, pm_i0, pm_i1, Nat.reduceAdd, Nat.reduceMul, Int.toNat_natCast, Int.toNat_zero, not_true_eq_false, not_false_eq_true, and_self, true_and, and_true, ↓reduceIte, Int.reduceEq, Int.reduceLT, Int.reduceLE, Int.reduceNeg, Bool.false_eq_true, h, e1, e2, y1, y11, c]
    · rw [if_neg c] at hN
      rw [hN]
      simp (disch := first | assumption | decide +kernel | omega | (split <;> omega)) only [q_165_0, q_165_1, q_165_2, q_165_5, q_165_8, q_165_9, q_165_12, q_165_13, q_165_14, q_165_15, q_165_16, q_165_17, q_165_20, q_165_21, q_165_24, q_165_26, q_165_27, q_165_28, q_165_29, q_165_32, q_165_34, q_165_35, q_165_36, q_165_39, q_165_40, q_165_42, q_165_45, q_165_48, q_165_49, q_165_50, q_165_53, q_165_56, q_165_57, q_165_60, q_165_63, q_165_66, q_165_67, q_165_68, q_165_71, q_165_74, q_165_76, q_165_79, q_165_80, q_165_83, q_165_85, q_165_86, q_165_87, q_165_88, q_165_89, q_165_90, q_165_93, q_165_94, pm_some, Option.toList_some, Option.toList_none, List.cons_append, List.nil_append, pm_i0, pm_i1, Nat.reduceAdd, Nat.reduceMul, Int.toNat_natCast, Int.toNat_zero, not_true_eq_false, not_false_eq_true, and_self, true_and, and_true, ↓reduceIte, Int.reduceEq, Int.reduceLT, Int.reduceLE, Int.reduceNeg, Bool.false_eq_true, h, e1, e2, y1, y11, c]
/-- the line's relation when neither it nor the model has changed -/
theorem Inv_of {T : Int} {Z Z2 : Nat → Nat → Int} {W : Nat → Nat} (hI : Inv T Z W) (hs : ∀ b, ¬ (118 ≤ b ∧ b < 190) → b ≠ 192 → b ≠ 210 → b ≠ 211 → Z2 b = Z b) : Inv T Z2 W := by
  obtain ⟨H, htx, hbk, hon⟩ := hI
  have g190 := hs 190 (by omega) (by omega) (by omega) (by omega)
  refine ⟨lr_congr H (fun b _ _ => hs _ (by omega) (by omega) (by omega) (by omega)) (by rw [g190]) (by rw [g190]) (by rw [g190]) (by rw [g190]) (by rw [g190]) (by rw [g190]) (hs _ (by omega) (by omega) (by omega) (by omega)) (fun b _ _ => hs _ (by omega) (by omega) (by omega) (by omega)) (fun b _ _ => hs _ (by omega) (by omega) (by omega) (by omega)), tx_congr htx (by rw [hs 1 (by omega) (by omega) (by omega) (by omega)]) (hs _ (by omega) (by omega) (by omega) (by omega)) (by rw [g190]) (hs _ (by omega) (by omega) (by omega) (by omega)), bk_congr hbk (by rw [hs 3 (by omega) (by omega) (by omega) (by omega)]) (fun b _ _ => hs _ (by omega) (by omega) (by omega) (by omega)) (by rw [g190]) (hs _ (by omega) (by omega) (by omega) (by omega)) (hs _ (by omega) (by omega) (by omega) (by omega)) (hs _ (by omega) (by omega) (by omega) (by omega)) (hs _ (by omega) (by omega) (by omega) (by omega)), by rw [g190]; exact hon⟩
theorem op_forecast : Op_forecast := by
  intro T L Z W hI hT0 hT a ha
  obtain ⟨⟨⟨a1, a2, a3, a4, a5, a6, a7, a8, a9, a10, a11⟩, ⟨⟨w1, w2, w3, w4, w5, w6⟩, ⟨w7, w8, w9⟩, w10⟩, ⟨⟨f1, f2, f3⟩, f4⟩, hms, hun, hco, hsh, htk⟩, htx, hbk, hon⟩ := id hI
  have a8' : 0 ≤ Z 46 4 := by omega
  have a9' : Z 46 4 ≤ 10 := by omega
  have a2' : 0 ≤ Z 46 2 := by omega
  have a3' : Z 46 2 ≤ 8 := by omega
  have a2'' : 0 ≤ Z 190 0 := by omega
  by_cases hm : 0 ≤ a ∧ a < Z 190 22
  · obtain ⟨Z1, e1, F1, H1⟩ := c_copyFrom L Z W hI.1
    have q190 := F1 190 (by omega)
    have hat : ((a.toNat : Nat) : Int) = a := by omega
    obtain ⟨x, hx, HC, HR⟩ := fore (m := a.toNat) H1 (by rw [q190]; exact hon) hT0 (by omega) (by rw [q190]; omega) L W
    rw [hat] at HC HR
    obtain ⟨Z2, e2, F2⟩ := HC Z1 (fun _ _ _ => rfl)
    obtain ⟨Z3, e3, g1, g2⟩ := HR Z2 (fun b h1 h2 h3 => F2 b (by omega))
    have hs : ∀ b, ¬ (118 ≤ b ∧ b < 190) → b ≠ 192 → b ≠ 210 → b ≠ 211 → Z3 b = Z b := fun b h1 h2 h3 h4 => by
      by_cases c : b = 191
      · subst c
        rw [g1, F2 191 (by omega), F1 191 (by omega)]
      · rw [g2 b c h2 h3 h4, F2 b (by omega), F1 b (by omega)]
    refine ⟨x, Z2, W, Z3, W, by omega, ?_, ?_, Inv.up (Inv_of hI hs), by rw [F2 _ (by omega), F1 _ (by omega)], hs _ (by omega) (by omega) (by omega) (by omega)⟩
    · simp (disch := first | assumption | decide +kernel | omega | (split <;> omega)) only [q_98_0, q_98_1, q_98_4, q_98_5, q_98_8, q_98_11, q_98_13, q_98_14, q_98_15, q_98_18, q_98_19, q_98_22, q_98_25, q_98_26, q_98_29, q_98_30, q_98_33, c_hasMessage, pm_some, Option.toList_some, Option.toList_none, List.cons_append, List.nil_append, pm_i0, pm_i1, Nat.reduceAdd, Nat.reduceMul, Int.toNat_natCast, Int.toNat_zero, a7, hm, not_true_eq_false, not_false_eq_true, and_self, true_and, and_true, ↓reduceIte, Int.reduceEq, Int.reduceLT, Int.reduceLE, Int.reduceNeg, Bool.false_eq_true, e1, e2]
    · have z22 : Z2 190 22 = Z 190 22 := by rw [F2 190 (by omega), q190]
      have g0 : 0 ≤ Z2 190 22 := by omega
      have g10 : Z2 190 22 ≤ 10 := by omega
      simp (disch := first | assumption | decide +kernel | omega | (split <;> omega)) only [q_166_0, q_166_1, q_166_2, q_166_5, q_166_8, q_166_10, q_166_13, q_166_14, q_166_15, q_166_18, c_noMessage, pm_some, Option.toList_some, Option.toList_none, List.cons_append, List.nil_append, pm_i0, pm_i1, Nat.reduceAdd, Nat.reduceMul, Int.toNat_natCast, Int.toNat_zero, z22, hm, not_true_eq_false, not_false_eq_true, and_self, true_and, and_true, ↓reduceIte, Int.reduceEq, Int.reduceLT, Int.reduceLE, Int.reduceNeg, Bool.false_eq_true, e3]
  · refine Op.same hI (-2) (by decide) ?_ ?_
    · simp (disch := first | assumption | decide +kernel | omega | (split <;> omega)) only [q_98_0, q_98_1, q_98_4, q_98_5, q_98_8, q_98_11, q_98_13, q_98_14, q_98_15, q_98_18, q_98_19, q_98_22, q_98_25, q_98_26, q_98_29, q_98_30, q_98_33, c_hasMessage, pm_some, Option.toList_some, Option.toList_none, List.cons_append, List.nil_append, pm_i0, pm_i1, Nat.reduceAdd, Nat.reduceMul, Int.toNat_natCast, Int.toNat_zero, a7, hm, not_true_eq_false, not_false_eq_true, and_self, true_and, and_true, ↓reduceIte, Int.reduceEq, Int.reduceLT, Int.reduceLE, Int.reduceNeg, Bool.false_eq_true]
    · simp (disch := first | assumption | decide +kernel | omega | (split <;> omega)) only [q_166_0, q_166_1, q_166_2, q_166_5, q_166_8, q_166_10, q_166_13, q_166_14, q_166_15, q_166_18, c_noMessage, pm_some, Option.toList_some, Option.toList_none, List.cons_append, List.nil_append, pm_i0, pm_i1, Nat.reduceAdd, Nat.reduceMul, Int.toNat_natCast, Int.toNat_zero, hm, not_true_eq_false, not_false_eq_true, and_self, true_and, and_true, ↓reduceIte, Int.reduceEq, Int.reduceLT, Int.reduceLE, Int.reduceNeg, Bool.false_eq_true]
/-- another priority, on both sides -/
theorem lr_prio {o i : Nat} {T p : Int} {Z : Nat → Nat → Int} (ho : pm_isL o) (H : lr o T Z) (hi : (i : Int) < Z 190 22) (p0 : 0 ≤ p) (p1 : p ≤ 2) : lr o T (pm_up (pm_up (pm_up Z (o + 9 + 6 + 5 * i) 5 p) o 11 0) 207 i p) := by
  have hx : o = 46 ∨ o = 118 := ho
  obtain ⟨ra, rw_, rf, rm, ru, rc, rs, rt⟩ := H
  obtain ⟨a1, a2, a3, a4, a5, a6, a7, a8, a9, a10, a11⟩ := id ra
  have i10 : i < 10 := by omega
  have u1 : ∀ b, b ≠ o + 9 + 6 + 5 * i → b ≠ o → b ≠ 207 → pm_up (pm_up (pm_up Z (o + 9 + 6 + 5 * i) 5 p) o 11 0) 207 i p b = Z b := fun b h1 h2 h3 => by rw [pm_up_row h3, pm_up_row h2, pm_up_row h1]
  have uo : ∀ q, q ≠ 11 → pm_up (pm_up (pm_up Z (o + 9 + 6 + 5 * i) 5 p) o 11 0) 207 i p o q = Z o q := fun q hq => by rw [pm_up_row (by omega), pm_up_ne (by omega), pm_up_row (by omega)]
  have u11 : pm_up (pm_up (pm_up Z (o + 9 + 6 + 5 * i) 5 p) o 11 0) 207 i p o 11 = 0 := by rw [pm_up_row (by omega), pm_up_same]
  have ua : ∀ q, q ≠ 5 → pm_up (pm_up (pm_up Z (o + 9 + 6 + 5 * i) 5 p) o 11 0) 207 i p (o + 9 + 6 + 5 * i) q = Z (o + 9 + 6 + 5 * i) q := fun q hq => by rw [pm_up_row (by omega), pm_up_row (by omega), pm_up_ne (by omega)]
  have u5 : pm_up (pm_up (pm_up Z (o + 9 + 6 + 5 * i) 5 p) o 11 0) 207 i p (o + 9 + 6 + 5 * i) 5 = p := by rw [pm_up_row (by omega), pm_up_row (by omega), pm_up_same]
  have up : pm_up (pm_up (pm_up Z (o + 9 + 6 + 5 * i) 5 p) o 11 0) 207 i p 207 i = p := pm_up_same _ _ _ _
  have un : ∀ j, j ≠ i → pm_up (pm_up (pm_up Z (o + 9 + 6 + 5 * i) 5 p) o 11 0) 207 i p 207 j = Z 207 j := fun j hj => by rw [pm_up_ne (by omega), pm_up_row (by omega), pm_up_row (by omega)]
  generalize pm_up (pm_up (pm_up Z (o + 9 + 6 + 5 * i) 5 p) o 11 0) 207 i p = Y at u1 uo u11 ua u5 up un ⊢
  have y190 := u1 190 (by omega) (by omega) (by omega)
  have y191 := u1 191 (by omega) (by omega) (by omega)
  refine ⟨lr_a_congr' ra (uo 2 (by omega)) (uo 3 (by omega)) (uo 4 (by omega)) (by rw [u11]; omega) (by rw [y190]) (by rw [y190]) (by rw [y191]), lr_w_congr rw_ (u1 _ (by omega) (by omega) (by omega)) (u1 _ (by omega) (by omega) (by omega)) (u1 _ (by omega) (by omega) (by omega)) (u1 _ (by omega) (by omega) (by omega)) (by rw [y190]) (by rw [y190]) (by rw [y190]) (u1 _ (by omega) (by omega) (by omega)) (u1 _ (by omega) (by omega) (by omega)) (u1 _ (by omega) (by omega) (by omega)), lr_f_congr rf (u1 _ (by omega) (by omega) (by omega)) (u1 _ (by omega) (by omega) (by omega)) (u1 _ (by omega) (by omega) (by omega)) (u1 _ (by omega) (by omega) (by omega)) (by rw [y190]) (u1 _ (by omega) (by omega) (by omega)) (u1 _ (by omega) (by omega) (by omega)) (u1 _ (by omega) (by omega) (by omega)), ?_, lr_u_congr ru (by rw [y190]) y191, lr_c_congr rc (fun l hl => u1 _ (by omega) (by omega) (by omega)) (fun q _ _ => by rw [y191]), lr_s_congr rs (u1 _ (by omega) (by omega) (by omega)) (by rw [y190]) (fun q _ _ => by rw [y191]), ?_⟩
  · intro j hj
    rw [y190] at hj
    by_cases hji : j = i
    · subst hji
      have hmj := rm j hj
      obtain ⟨⟨⟨s1, s2, s3, s4, s5, s6, s7⟩, ⟨s8, s9, s10⟩, s11, s12, s13, s14, s15, s16, s17, s18, s19⟩, ⟨d1, d2, d3, d4, d5, d6, d7, d8, d9⟩, -⟩ := id hmj
      refine lm_of hmj a3 ?_ ?_ (ua 3 (by omega)) (ua 4 (by omega)) (ua 6 (by omega)) (u1 _ (by omega) (by omega) (by omega)) (u1 _ (by omega) (by omega) (by omega)) (u1 _ (by omega) (by omega) (by omega)) (u1 _ (by omega) (by omega) (by omega)) (by rw [u1 205 (by omega) (by omega) (by omega)]) (by rw [u1 206 (by omega) (by omega) (by omega)]) (fun q _ _ => by rw [y191]) (fun q => by rw [ua 7 (by omega)] at q; exact q)
      · unfold lm_s
        rw [ua 0 (by omega), ua 1 (by omega), ua 2 (by omega), ua 3 (by omega), ua 4 (by omega), u5, up, ua 6 (by omega), ua 8 (by omega), y190, u1 205 (by omega) (by omega) (by omega), u1 206 (by omega) (by omega) (by omega), u1 208 (by omega) (by omega) (by omega), y191]
        exact ⟨⟨s1, s2, s3, s4, s5, s6, s7⟩, ⟨s8, s9, s10⟩, rfl, p0, p1, s14, s15, s16, s17, s18, s19⟩
      · unfold lm_d
        rw [ua 7 (by omega), ua 9 (by omega), ua 10 (by omega), y191]
        exact ⟨d1, d2, d3, d4, d5, d6, d7, d8, d9⟩
    · exact lm_congr (rm j hj) (u1 _ (by omega) (by omega) (by omega)) (u1 _ (by omega) (by omega) (by omega)) (u1 _ (by omega) (by omega) (by omega)) (u1 _ (by omega) (by omega) (by omega)) (u1 _ (by omega) (by omega) (by omega)) (by rw [y190]) a3 (by rw [u1 205 (by omega) (by omega) (by omega)]) (by rw [u1 206 (by omega) (by omega) (by omega)]) (un j hji) (by rw [u1 208 (by omega) (by omega) (by omega)]) (fun q _ => by rw [y191])
  · intro h
    rw [u11] at h
    omega
theorem op_effect : Op_effect := by
  intro T L Z W hI hT0 hT a b c ha hb hc
  obtain ⟨⟨⟨a1, a2, a3, a4, a5, a6, a7, a8, a9, a10, a11⟩, ⟨⟨w1, w2, w3, w4, w5, w6⟩, ⟨w7, w8, w9⟩, w10⟩, ⟨⟨f1, f2, f3⟩, f4⟩, hms, hun, hco, hsh, htk⟩, htx, hbk, hon⟩ := id hI
  have a8' : 0 ≤ Z 46 4 := by omega
  have a9' : Z 46 4 ≤ 10 := by omega
  have a2' : 0 ≤ Z 46 2 := by omega
  have a3' : Z 46 2 ≤ 8 := by omega
  have a2'' : 0 ≤ Z 190 0 := by omega
  by_cases hm : 0 ≤ a ∧ a < Z 190 22
  · by_cases hn : 0 ≤ b ∧ b < Z 190 22
    · by_cases hp : 0 ≤ c ∧ c ≤ 2
      · have hat : ((a.toNat : Nat) : Int) = a := by omega
        have hbt : ((b.toNat : Nat) : Int) = b := by omega
        obtain ⟨kb, -⟩ := kM46 (n := b.toNat) (by omega)
        have hmb : lm (61 + 5 * b.toNat) T Z b.toNat := hms b.toNat (by omega)
        obtain ⟨-, ⟨d1, d2, d3, -⟩, -⟩ := id hmb
        obtain ⟨⟨-, -, s11, s12, s13, -⟩, -⟩ := id hmb
        have eb : (1 + b).toNat = 1 + b.toNat := by omega
        have hr7 : pm_r (Z (61 + 5 * b.toNat) 7) := by omega
        have hr1 : pm_r (Z 191 (1 + b).toNat) := by rw [eb]; omega
        by_cases hu : Z 191 (1 + b.toNat) = 0
        · have hu7 : Z (61 + 5 * b.toNat) 7 = 0 := by omega
          obtain ⟨Z1, e1, F1, H1⟩ := c_copyFrom L Z W hI.1
          have q190 := F1 190 (by omega)
          obtain ⟨x, hx, HC, HR⟩ := fore (m := a.toNat) H1 (by rw [q190]; exact hon) hT0 (by omega) (by rw [q190]; omega) L W
          rw [hat] at HC HR
          obtain ⟨Z2, e2, F2⟩ := HC Z1 (fun _ _ _ => rfl)
          have r2 : ∀ d, ¬ (118 ≤ d ∧ d < 190) → Z2 d = Z d := fun d hd => by rw [F2 d (by omega), F1 d (by omega)]
          have H46 : lr 46 T Z2 := lr_congr hI.1 (fun d _ _ => r2 d (by omega)) (by rw [r2 190 (by omega)]) (by rw [r2 190 (by omega)]) (by rw [r2 190 (by omega)]) (by rw [r2 190 (by omega)]) (by rw [r2 190 (by omega)]) (by rw [r2 190 (by omega)]) (r2 _ (by omega)) (fun d _ _ => r2 d (by omega)) (fun d _ _ => r2 d (by omega))
          obtain ⟨Z3, e3, F3, H3⟩ := c_copyFrom L Z2 W H46
          have r3 : ∀ d, ¬ (118 ≤ d ∧ d < 190) → Z3 d = Z d := fun d hd => by rw [F3 d (by omega), r2 d hd]
          have hcp := c_changePriority b c L Z3 W 118 (Or.inr rfl) hn.1 (by omega)
          obtain ⟨Z4, hZ4⟩ : ∃ U, U = pm_up (pm_up Z3 (118 + 9 + 6 + 5 * b.toNat) 5 c) 118 11 0 := ⟨_, rfl⟩
          have H4 : lr 118 T (pm_up Z4 207 b.toNat c) := by
            rw [hZ4]
            exact lr_prio (Or.inr rfl) H3 (by rw [r3 190 (by omega)]; omega) hp.1 hp.2
          rw [← hZ4] at hcp
          have r4 : ∀ d, ¬ (118 ≤ d ∧ d < 190) → Z4 d = Z d := fun d hd => by rw [hZ4, pm_up_row (by omega), pm_up_row (by omega), r3 d hd]
          have v190 : pm_up Z4 207 b.toNat c 190 = Z 190 := by rw [pm_up_row (by omega), r4 190 (by omega)]
          obtain ⟨y, hy, HC', HR'⟩ := fore (m := a.toNat) H4 (by rw [v190]; exact hon) hT0 (by omega) (by rw [v190]; omega) L W
          rw [hat] at HC' HR'
          obtain ⟨Z5, e5, F5⟩ := HC' Z4 (fun d h1 h2 => by rw [pm_up_row (by omega)])
          have r5 : ∀ d, ¬ (118 ≤ d ∧ d < 190) → Z5 d = Z d := fun d hd => by rw [F5 d (by omega), r4 d hd]
          obtain ⟨Z6, e6, g6, f6⟩ := HR Z5 (fun d h1 h2 h3 => by rw [r5 d (by omega), F1 d (by omega)])
          have r6 : ∀ d, ¬ (118 ≤ d ∧ d < 190) → d ≠ 192 → d ≠ 210 → d ≠ 211 → Z6 d = Z d := fun d h1 h2 h3 h4 => by
            by_cases q : d = 191
            · subst q
              rw [g6, r5 191 (by omega)]
            · rw [f6 d q h2 h3 h4, r5 d h1]
          obtain ⟨Z8, e8, g8, f8⟩ := HR' (pm_up Z6 207 b.toNat c) (fun d h1 h2 h3 => by
            by_cases q : d = 207
            · subst q
              funext j
              unfold pm_up
              rw [r6 207 (by omega) (by omega) (by omega) (by omega), r4 207 (by omega)]
            · rw [pm_up_row q, pm_up_row q, r6 d (by omega) h3 (by omega) (by omega), r4 d (by omega)])
          have p7 : Z6 207 b.toNat = Z 207 b.toNat := by rw [r6 207 (by omega) (by omega) (by omega) (by omega)]
          have hs : ∀ d, ¬ (118 ≤ d ∧ d < 190) → d ≠ 192 → d ≠ 210 → d ≠ 211 → pm_up Z8 207 b.toNat (Z 207 b.toNat) d = Z d := fun d h1 h2 h3 h4 => by
            by_cases q7 : d = 207
            · subst q7
              funext j
              by_cases qj : j = b.toNat
              · subst qj
                rw [pm_up_same]
              · rw [pm_up_ne (by omega), f8 207 (by omega) (by omega) (by omega) (by omega), pm_up_ne (by omega), r6 207 (by omega) (by omega) (by omega) (by omega)]
            · rw [pm_up_row q7]
              by_cases q : d = 191
              · subst q
                rw [g8, pm_up_row (by omega), r6 191 (by omega) (by omega) (by omega) (by omega)]
              · rw [f8 d q h2 h3 h4, pm_up_row q7, r6 d h1 h2 h3 h4]
          have s22 : Z5 190 22 = Z 190 22 := by rw [r5 190 (by omega)]
          have g0 : 0 ≤ Z5 190 22 := by omega
          have g10 : Z5 190 22 ≤ 10 := by omega
          have hr1' : pm_r (Z5 191 (1 + b).toNat) := by rw [r5 191 (by omega)]; exact hr1
          have hu5 : Z5 191 (1 + b.toNat) = 0 := by rw [r5 191 (by omega)]; exact hu
          have hCu := c_isUnderWay (61 + 5 * b.toNat) L Z W kb hr7
          have hRu := c_R_isUnderWay b L Z5 W hn.1 (by omega) hr1'
          rw [hu7, if_pos rfl] at hCu
          rw [eb, hu5, if_pos rfl] at hRu
          refine ⟨if x = -6 ∨ y = -6 then -6 else y - x + 10000, Z5, W, pm_up Z8 207 b.toNat (Z 207 b.toNat), W, by split <;> omega, ?_, ?_, Inv.up (Inv_of hI hs), r5 _ (by omega), hs _ (by omega) (by omega) (by omega) (by omega)⟩
          · have hxr : pm_r x := by omega
            have hyr : pm_r y := by omega
            by_cases x6 : x = -6
            · simp (disch := first | assumption | decide +kernel | omega | (split <;> omega)) only [q_99_0, q_99_1, q_99_4, q_99_5, q_99_8, q_99_11, q_99_12, q_99_15, q_99_16, q_99_19, q_99_22, q_99_24, q_99_25, q_99_26, q_99_29, q_99_32, q_99_34, q_99_35, q_99_36, q_99_39, q_99_42, q_99_43, q_99_44, q_99_47, q_99_50, q_99_52, q_99_53, q_99_54, q_99_57, q_99_58, q_99_61, q_99_64, q_99_65, q_99_68, q_99_69, q_99_72, q_99_74, q_99_75, q_99_78, q_99_79, q_99_82, q_99_85, q_99_86, q_99_89, q_99_90, q_99_91, q_99_94, q_99_95, q_99_98, q_99_99, q_99_102, q_99_104, q_99_106, q_99_108, q_99_111, q_99_113, q_99_115, q_99_118, q_99_120, q_99_121, q_99_123, q_99_125, q_99_126, q_99_129, q_99_130, c_hasMessage, c_isPriority, pm_some, Option.toList_some, Option.toList_none, List.cons_append, List.nil_append, pm_i0, pm_i1, Nat.reduceAdd, Nat.reduceMul, Int.toNat_natCast, Int.toNat_zero, a7, hm, hn, hp, not_true_eq_false, not_false_eq_true, and_self, true_and, and_true, ↓reduceIte, Int.reduceEq, Int.reduceLT, Int.reduceLE, Int.reduceNeg, Bool.false_eq_true, hCu, e1, e2, e3, hcp, e5, x6, true_or]
            · by_cases y6 : y = -6
              · simp (disch := first | assumption | decide +kernel | omega | (split <;> omega)) only [q_99_0, q_99_1, q_99_4, q_99_5, q_99_8, q_99_11, q_99_12, q_99_15, q_99_16, q_99_19, q_99_22, q_99_24, q_99_25, q_99_26, q_99_29, q_99_32, q_99_34, q_99_35, q_99_36, q_99_39, q_99_42, q_99_43, q_99_44, q_99_47, q_99_50, q_99_52, q_99_53, q_99_54, q_99_57, q_99_58, q_99_61, q_99_64, q_99_65, q_99_68, q_99_69, q_99_72, q_99_74, q_99_75, q_99_78, q_99_79, q_99_82, q_99_85, q_99_86, q_99_89, q_99_90, q_99_91, q_99_94, q_99_95, q_99_98, q_99_99, q_99_102, q_99_104, q_99_106, q_99_108, q_99_111, q_99_113, q_99_115, q_99_118, q_99_120, q_99_121, q_99_123, q_99_125, q_99_126, q_99_129, q_99_130, c_hasMessage, c_isPriority, pm_some, Option.toList_some, Option.toList_none, List.cons_append, List.nil_append, pm_i0, pm_i1, Nat.reduceAdd, Nat.reduceMul, Int.toNat_natCast, Int.toNat_zero, a7, hm, hn, hp, not_true_eq_false, not_false_eq_true, and_self, true_and, and_true, ↓reduceIte, Int.reduceEq, Int.reduceLT, Int.reduceLE, Int.reduceNeg, Bool.false_eq_true, hCu, e1, e2, e3, hcp, e5, x6, y6, or_true]
              · simp (disch := first | assumption | decide +kernel | omega | (split <;> omega)) only [q_99_0, q_99_1, q_99_4, q_99_5, q_99_8, q_99_11, q_99_12, q_99_15, q_99_16, q_99_19, q_99_22, q_99_24, q_99_25, q_99_26, q_99_29, q_99_32, q_99_34, q_99_35, q_99_36, q_99_39, q_99_42, q_99_43, q_99_44, q_99_47, q_99_50, q_99_52, q_99_53, q_99_54, q_99_57, q_99_58, q_99_61, q_99_64, q_99_65, q_99_68, q_99_69, q_99_72, q_99_74, q_99_75, q_99_78, q_99_79, q_99_82, q_99_85, q_99_86, q_99_89, q_99_90, q_99_91, q_99_94, q_99_95, q_99_98, q_99_99, q_99_102, q_99_104, q_99_106, q_99_108, q_99_111, q_99_113, q_99_115, q_99_118, q_99_120, q_99_121, q_99_123, q_99_125, q_99_126, q_99_129, q_99_130, c_hasMessage, c_isPriority, pm_some, Option.toList_some, Option.toList_none, List.cons_append, List.nil_append, pm_i0, pm_i1, Nat.reduceAdd, Nat.reduceMul, Int.toNat_natCast, Int.toNat_zero, a7, hm, hn, hp, not_true_eq_false, not_false_eq_true, and_self, true_and, and_true, ↓reduceIte, Int.reduceEq, Int.reduceLT, Int.reduceLE, Int.reduceNeg, Bool.false_eq_true, hCu, e1, e2, e3, hcp, e5, x6, y6, or_self]
          · have hxr : pm_r x := by omega
            have hyr : pm_r y := by omega
            have hyx : 10000 + y - x = y - x + 10000 := by omega
            by_cases x6 : x = -6
            · simp (disch := first | assumption | decide +kernel | omega | (split <;> omega)) only [q_167_0, q_167_1, q_167_2, q_167_5, q_167_8, q_167_9, q_167_10, q_167_13, q_167_16, q_167_18, q_167_19, q_167_20, q_167_21, q_167_22, q_167_25, q_167_28, q_167_30, q_167_31, q_167_32, q_167_33, q_167_36, q_167_39, q_167_41, q_167_42, q_167_43, q_167_44, q_167_47, q_167_49, q_167_50, q_167_53, q_167_54, q_167_55, q_167_57, q_167_58, q_167_61, q_167_62, q_167_63, q_167_64, q_167_65, q_167_66, q_167_69, q_167_71, q_167_72, q_167_75, q_167_76, q_167_78, q_167_79, q_167_81, q_167_83, q_167_86, q_167_88, q_167_90, q_167_93, q_167_95, q_167_98, q_167_101, q_167_103, q_167_104, q_167_106, q_167_107, c_noMessage, c_in, pm_some, Option.toList_some, Option.toList_none, List.cons_append, List.nil_append, pm_i0, pm_i1, Nat.reduceAdd, Nat.reduceMul, Int.toNat_natCast, Int.toNat_zero, s22, hm, hn, hp, not_true_eq_false, not_false_eq_true, and_self, true_and, and_true, ↓reduceIte, Int.reduceEq, Int.reduceLT, Int.reduceLE, Int.reduceNeg, Bool.false_eq_true, hRu, e6, p7, e8, x6, true_or]
            · by_cases y6 : y = -6
              · simp (disch := first | assumption | decide +kernel | omega | (split <;> omega)) only [q_167_0, q_167_1, q_167_2, q_167_5, q_167_8, q_167_9, q_167_10, q_167_13, q_167_16, q_167_18, q_167_19, q_167_20, q_167_21, q_167_22, q_167_25, q_167_28, q_167_30, q_167_31, q_167_32, q_167_33, q_167_36, q_167_39, q_167_41, q_167_42, q_167_43, q_167_44, q_167_47, q_167_49, q_167_50, q_167_53, q_167_54, q_167_55, q_167_57, q_167_58, q_167_61, q_167_62, q_167_63, q_167_64, q_167_65, q_167_66, q_167_69, q_167_71, q_167_72, q_167_75, q_167_76, q_167_78, q_167_79, q_167_81, q_167_83, q_167_86, q_167_88, q_167_90, q_167_93, q_167_95, q_167_98, q_167_101, q_167_103, q_167_104, q_167_106, q_167_107, c_noMessage, c_in, pm_some, Option.toList_some, Option.toList_none, List.cons_append, List.nil_append, pm_i0, pm_i1, Nat.reduceAdd, Nat.reduceMul, Int.toNat_natCast, Int.toNat_zero, s22, hm, hn, hp, not_true_eq_false, not_false_eq_true, and_self, true_and, and_true, ↓reduceIte, Int.reduceEq, Int.reduceLT, Int.reduceLE, Int.reduceNeg, Bool.false_eq_true, hRu, e6, p7, e8, x6, y6, or_true]
              · simp (disch := first | assumption | decide +kernel | omega | (split <;> omega)) only [q_167_0, q_167_1, q_167_2, q_167_5, q_167_8, q_167_9, q_167_10, q_167_13, q_167_16, q_167_18, q_167_19, q_167_20, q_167_21, q_167_22, q_167_25, q_167_28, q_167_30, q_167_31, q_167_32, q_167_33, q_167_36, q_167_39, q_167_41, q_167_42, q_167_43, q_167_44, q_167_47, q_167_49, q_167_50, q_167_53, q_167_54, q_167_55, q_167_57, q_167_58, q_167_61, q_167_62, q_167_63, q_167_64, q_167_65, q_167_66, q_167_69, q_167_71, q_167_72, q_167_75, q_167_76, q_167_78, q_167_79, q_167_81, q_167_83, q_167_86, q_167_88, q_167_90, q_167_93, q_167_95, q_167_98, q_167_101, q_167_103, q_167_104, q_167_106, q_167_107, c_noMessage, c_in, pm_some, Option.toList_some, Option.toList_none, List.cons_append, List.nil_append, pm_i0, pm_i1, Nat.reduceAdd, Nat.reduceMul, Int.toNat_natCast, Int.toNat_zero, s22, hm, hn, hp, not_true_eq_false, not_false_eq_true, and_self, true_and, and_true, ↓reduceIte, Int.reduceEq, Int.reduceLT, Int.reduceLE, Int.reduceNeg, Bool.false_eq_true, hRu, e6, p7, e8, x6, y6, or_self, hyx]
        · have hu7 : ¬ Z (61 + 5 * b.toNat) 7 = 0 := by omega
          have hCu := c_isUnderWay (61 + 5 * b.toNat) L Z W kb hr7
          have hRu := c_R_isUnderWay b L Z W hn.1 (by omega) hr1
          rw [if_neg hu7] at hCu
          rw [eb, if_neg hu] at hRu
          refine Op.same hI (-4) (by decide) ?_ ?_
          · simp (disch := first | assumption | decide +kernel | omega | (split <;> omega)) only [q_99_0, q_99_1, q_99_4, q_99_5, q_99_8, q_99_11, q_99_12, q_99_15, q_99_16, q_99_19, q_99_22, q_99_24, q_99_25, q_99_26, q_99_29, q_99_32, q_99_34, q_99_35, q_99_36, q_99_39, q_99_42, q_99_43, q_99_44, q_99_47, q_99_50, q_99_52, q_99_53, q_99_54, q_99_57, q_99_58, q_99_61, q_99_64, q_99_65, q_99_68, q_99_69, q_99_72, q_99_74, q_99_75, q_99_78, q_99_79, q_99_82, q_99_85, q_99_86, q_99_89, q_99_90, q_99_91, q_99_94, q_99_95, q_99_98, q_99_99, q_99_102, q_99_104, q_99_106, q_99_108, q_99_111, q_99_113, q_99_115, q_99_118, q_99_120, q_99_121, q_99_123, q_99_125, q_99_126, q_99_129, q_99_130, c_hasMessage, c_isPriority, pm_some, Option.toList_some, Option.toList_none, List.cons_append, List.nil_append, pm_i0, pm_i1, Nat.reduceAdd, Nat.reduceMul, Int.toNat_natCast, Int.toNat_zero, a7, hm, hn, hp, not_true_eq_false, not_false_eq_true, and_self, true_and, and_true, ↓reduceIte, Int.reduceEq, Int.reduceLT, Int.reduceLE, Int.reduceNeg, Bool.false_eq_true, hCu]
          · simp (disch := first | assumption | decide +kernel | omega | (split <;> omega)) only [q_167_0, q_167_1, q_167_2, q_167_5, q_167_8, q_167_9, q_167_10, q_167_13, q_167_16, q_167_18, q_167_19, q_167_20, q_167_21, q_167_22, q_167_25, q_167_28, q_167_30, q_167_31, q_167_32, q_167_33, q_167_36, q_167_39, q_167_41, q_167_42, q_167_43, q_167_44, q_167_47, q_167_49, q_167_50, q_167_53, q_167_54, q_167_55, q_167_57, q_167_58, q_167_61, q_167_62, q_167_63, q_167_64, q_167_65, q_167_66, q_167_69, q_167_71, q_167_72, q_167_75, q_167_76, q_167_78, q_167_79, q_167_81, q_167_83, q_167_86, q_167_88, q_167_90, q_167_93, q_167_95, q_167_98, q_167_101, q_167_103, q_167_104, q_167_106, q_167_107, c_noMessage, c_in, pm_some, Option.toList_some, Option.toList_none, List.cons_append, List.nil_append, pm_i0, pm_i1, Nat.reduceAdd, Nat.reduceMul, Int.toNat_natCast, Int.toNat_zero, hm, hn, hp, not_true_eq_false, not_false_eq_true, and_self, true_and, and_true, ↓reduceIte, Int.reduceEq, Int.reduceLT, Int.reduceLE, Int.reduceNeg, Bool.false_eq_true, hRu]
      · refine Op.same hI (-3) (by decide) ?_ ?_
        · simp (disch := first | assumption | decide +kernel | omega | (split <;> omega)) only [q_99_0, q_99_1, q_99_4, q_99_5, q_99_8, q_99_11, q_99_12, q_99_15, q_99_16, q_99_19, q_99_22, q_99_24, q_99_25, q_99_26, q_99_29, q_99_32, q_99_34, q_99_35, q_99_36, q_99_39, q_99_42, q_99_43, q_99_44, q_99_47, q_99_50, q_99_52, q_99_53, q_99_54, q_99_57, q_99_58, q_99_61, q_99_64, q_99_65, q_99_68, q_99_69, q_99_72, q_99_74, q_99_75, q_99_78, q_99_79, q_99_82, q_99_85, q_99_86, q_99_89, q_99_90, q_99_91, q_99_94, q_99_95, q_99_98, q_99_99, q_99_102, q_99_104, q_99_106, q_99_108, q_99_111, q_99_113, q_99_115, q_99_118, q_99_120, q_99_121, q_99_123, q_99_125, q_99_126, q_99_129, q_99_130, c_hasMessage, c_isPriority, pm_some, Option.toList_some, Option.toList_none, List.cons_append, List.nil_append, pm_i0, pm_i1, Nat.reduceAdd, Nat.reduceMul, Int.toNat_natCast, Int.toNat_zero, a7, hm, hn, hp, not_true_eq_false, not_false_eq_true, and_self, true_and, and_true, ↓reduceIte, Int.reduceEq, Int.reduceLT, Int.reduceLE, Int.reduceNeg, Bool.false_eq_true]
        · simp (disch := first | assumption | decide +kernel | omega | (split <;> omega)) only [q_167_0, q_167_1, q_167_2, q_167_5, q_167_8, q_167_9, q_167_10, q_167_13, q_167_16, q_167_18, q_167_19, q_167_20, q_167_21, q_167_22, q_167_25, q_167_28, q_167_30, q_167_31, q_167_32, q_167_33, q_167_36, q_167_39, q_167_41, q_167_42, q_167_43, q_167_44, q_167_47, q_167_49, q_167_50, q_167_53, q_167_54, q_167_55, q_167_57, q_167_58, q_167_61, q_167_62, q_167_63, q_167_64, q_167_65, q_167_66, q_167_69, q_167_71, q_167_72, q_167_75, q_167_76, q_167_78, q_167_79, q_167_81, q_167_83, q_167_86, q_167_88, q_167_90, q_167_93, q_167_95, q_167_98, q_167_101, q_167_103, q_167_104, q_167_106, q_167_107, c_noMessage, c_in, pm_some, Option.toList_some, Option.toList_none, List.cons_append, List.nil_append, pm_i0, pm_i1, Nat.reduceAdd, Nat.reduceMul, Int.toNat_natCast, Int.toNat_zero, hm, hn, hp, not_true_eq_false, not_false_eq_true, and_self, true_and, and_true, ↓reduceIte, Int.reduceEq, Int.reduceLT, Int.reduceLE, Int.reduceNeg, Bool.false_eq_true]
    · refine Op.same hI (-2) (by decide) ?_ ?_
      · simp (disch := first | assumption | decide +kernel | omega | (split <;> omega)) only [q_99_0, q_99_1, q_99_4, q_99_5, q_99_8, q_99_11, q_99_12, q_99_15, q_99_16, q_99_19, q_99_22, q_99_24, q_99_25, q_99_26, q_99_29, q_99_32, q_99_34, q_99_35, q_99_36, q_99_39, q_99_42, q_99_43, q_99_44, q_99_47, q_99_50, q_99_52, q_99_53, q_99_54, q_99_57, q_99_58, q_99_61, q_99_64, q_99_65, q_99_68, q_99_69, q_99_72, q_99_74, q_99_75, q_99_78, q_99_79, q_99_82, q_99_85, q_99_86, q_99_89, q_99_90, q_99_91, q_99_94, q_99_95, q_99_98, q_99_99, q_99_102, q_99_104, q_99_106, q_99_108, q_99_111, q_99_113, q_99_115, q_99_118, q_99_120, q_99_121, q_99_123, q_99_125, q_99_126, q_99_129, q_99_130, c_hasMessage, pm_some, Option.toList_some, Option.toList_none, List.cons_append, List.nil_append, pm_i0, pm_i1, Nat.reduceAdd, Nat.reduceMul, Int.toNat_natCast, Int.toNat_zero, a7, hm, hn, not_true_eq_false, not_false_eq_true, and_self, true_and, and_true, ↓reduceIte, Int.reduceEq, Int.reduceLT, Int.reduceLE, Int.reduceNeg, Bool.false_eq_true]
      · simp (disch := first | assumption | decide +kernel | omega | (split <;> omega)) only [q_167_0, q_167_1, q_167_2, q_167_5, q_167_8, q_167_9, q_167_10, q_167_13, q_167_16, q_167_18, q_167_19, q_167_20, q_167_21, q_167_22, q_167_25, q_167_28, q_167_30, q_167_31, q_167_32, q_167_33, q_167_36, q_167_39, q_167_41, q_167_42, q_167_43, q_167_44, q_167_47, q_167_49, q_167_50, q_167_53, q_167_54, q_167_55, q_167_57, q_167_58, q_167_61, q_167_62, q_167_63, q_167_64, q_167_65, q_167_66, q_167_69, q_167_71, q_167_72, q_167_75, q_167_76, q_167_78, q_167_79, q_167_81, q_167_83, q_167_86, q_167_88, q_167_90, q_167_93, q_167_95, q_167_98, q_167_101, q_167_103, q_167_104, q_167_106, q_167_107, c_noMessage, pm_some, Option.toList_some, Option.toList_none, List.cons_append, List.nil_append, pm_i0, pm_i1, Nat.reduceAdd, Nat.reduceMul, Int.toNat_natCast, Int.toNat_zero, hm, hn, not_true_eq_false, not_false_eq_true, and_self, true_and, and_true, ↓reduceIte, Int.reduceEq, Int.reduceLT, Int.reduceLE, Int.reduceNeg, Bool.false_eq_true]
  · refine Op.same hI (-2) (by decide) ?_ ?_
    · simp (disch := first | assumption | decide +kernel | omega | (split <;> omega)) only [q_99_0, q_99_1, q_99_4, q_99_5, q_99_8, q_99_11, q_99_12, q_99_15, q_99_16, q_99_19, q_99_22, q_99_24, q_99_25, q_99_26, q_99_29, q_99_32, q_99_34, q_99_35, q_99_36, q_99_39, q_99_42, q_99_43, q_99_44, q_99_47, q_99_50, q_99_52, q_99_53, q_99_54, q_99_57, q_99_58, q_99_61, q_99_64, q_99_65, q_99_68, q_99_69, q_99_72, q_99_74, q_99_75, q_99_78, q_99_79, q_99_82, q_99_85, q_99_86, q_99_89, q_99_90, q_99_91, q_99_94, q_99_95, q_99_98, q_99_99, q_99_102, q_99_104, q_99_106, q_99_108, q_99_111, q_99_113, q_99_115, q_99_118, q_99_120, q_99_121, q_99_123, q_99_125, q_99_126, q_99_129, q_99_130, c_hasMessage, pm_some, Option.toList_some, Option.toList_none, List.cons_append, List.nil_append, pm_i0, pm_i1, Nat.reduceAdd, Nat.reduceMul, Int.toNat_natCast, Int.toNat_zero, a7, hm, not_true_eq_false, not_false_eq_true, and_self, true_and, and_true, ↓reduceIte, Int.reduceEq, Int.reduceLT, Int.reduceLE, Int.reduceNeg, Bool.false_eq_true]
    · simp (disch := first | assumption | decide +kernel | omega | (split <;> omega)) only [q_167_0, q_167_1, q_167_2, q_167_5, q_167_8, q_167_9, q_167_10, q_167_13, q_167_16, q_167_18, q_167_19, q_167_20, q_167_21, q_167_22, q_167_25, q_167_28, q_167_30, q_167_31, q_167_32, q_167_33, q_167_36, q_167_39, q_167_41, q_167_42, q_167_43, q_167_44, q_167_47, q_167_49, q_167_50, q_167_53, q_167_54, q_167_55, q_167_57, q_167_58, q_167_61, q_167_62, q_167_63, q_167_64, q_167_65, q_167_66, q_167_69, q_167_71, q_167_72, q_167_75, q_167_76, q_167_78, q_167_79, q_167_81, q_167_83, q_167_86, q_167_88, q_167_90, q_167_93, q_167_95, q_167_98, q_167_101, q_167_103, q_167_104, q_167_106, q_167_107, c_noMessage, pm_some, Option.toList_some, Option.toList_none, List.cons_append, List.nil_append, pm_i0, pm_i1, Nat.reduceAdd, Nat.reduceMul, Int.toNat_natCast, Int.toNat_zero, hm, not_true_eq_false, not_false_eq_true, and_self, true_and, and_true, ↓reduceIte, Int.reduceEq, Int.reduceLT, Int.reduceLE, Int.reduceNeg, Bool.false_eq_true]
