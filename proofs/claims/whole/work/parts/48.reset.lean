/-! a new line -/
theorem l_clearShown {o : Nat} (ho : pm_isL o) (L : Nat) (W : Nat → Nat) : ∀ (n k : Nat) (Z : Nat → Nat → Int), k + n = 8 → ∃ Z', pm_D (29, 2, [.ref o, .int (pm_J (k : Int))], [], pm_hp L Z W) = some (none, pm_hp L Z' W) ∧ (∀ a, a ≠ o + 11 → Z' a = Z a) ∧ (∀ l, 8 ≤ l → Z' (o + 11) l = Z (o + 11) l) ∧ ∀ l : Nat, l < 8 → Z' (o + 11) l = if k ≤ l then 0 else Z (o + 11) l := by
  obtain ⟨k1, k2, k3, k4, k5, k6, k7, k8, k9, k10, k11, -⟩ := pm_kdL ho
  intro n
  induction n with
  | zero =>
    intro k Z hk
    obtain rfl : k = 8 := by omega
    refine ⟨Z, ?_, fun _ _ => rfl, fun _ _ => rfl, fun l hl => (if_neg (by omega)).symm⟩
    rw [q_29_2]
    simp (disch := first | assumption | decide +kernel | omega | (split <;> omega)) only [q_29_0, q_29_1, q_29_3, q_29_5, q_29_8, q_29_9, q_29_12, q_29_13, q_29_14, q_29_15, q_29_18, q_29_21, pm_some, Option.toList_some, Option.toList_none, List.cons_append, List.nil_append, pm_i0, pm_i1, Nat.reduceAdd, Nat.reduceMul, Int.toNat_natCast, Int.toNat_zero, not_true_eq_false, not_false_eq_true, and_self, true_and, and_true, ↓reduceIte, Int.reduceEq, Int.reduceLT, Int.reduceLE, Int.reduceNeg, Bool.false_eq_true, Int.lt_irrefl, Int.reduceLT, Int.cast_ofNat_Int]
  | succ n ih =>
    intro k Z hk
    have hlt : (k : Int) < 8 := by omega
    obtain ⟨Z', e, f, f', g⟩ := ih (k + 1) (pm_up Z (o + 11) k 0) (by omega)
    rw [show (((k + 1 : Nat)) : Int) = (k : Int) + 1 by omega] at e
    refine ⟨Z', ?_, fun a ha => by rw [f a ha, pm_up_row ha], fun l hl => by rw [f' l hl, pm_up_ne (by omega)], fun l hl => ?_⟩
    · rw [q_29_2]
      simp (disch := first | assumption | decide +kernel | omega | (split <;> omega)) only [q_29_0, q_29_1, q_29_3, q_29_5, q_29_8, q_29_9, q_29_12, q_29_13, q_29_14, q_29_15, q_29_18, q_29_21, pm_some, Option.toList_some, Option.toList_none, List.cons_append, List.nil_append, pm_i0, pm_i1, Nat.reduceAdd, Nat.reduceMul, Int.toNat_natCast, Int.toNat_zero, not_true_eq_false, not_false_eq_true, and_self, true_and, and_true, ↓reduceIte, Int.reduceEq, Int.reduceLT, Int.reduceLE, Int.reduceNeg, Bool.false_eq_true, hlt, e]
    · rw [g l hl]
      by_cases hl' : l = k
      · subst hl'
        rw [if_neg (by omega), if_pos (Nat.le_refl _), pm_up_same]
      · rw [pm_up_ne (by omega)]
        by_cases h2 : k ≤ l
        · rw [if_pos (by omega), if_pos h2]
        · rw [if_neg (by omega), if_neg h2]
theorem c_clearShown {o : Nat} (ho : pm_isL o) (L : Nat) (Z : Nat → Nat → Int) (W : Nat → Nat) : ∃ Z', pm_D (29, 0, [.ref o, .null], [], pm_hp L Z W) = some (none, pm_hp L Z' W) ∧ (∀ a, a ≠ o + 11 → Z' a = Z a) ∧ (∀ l, 8 ≤ l → Z' (o + 11) l = Z (o + 11) l) ∧ ∀ l : Nat, l < 8 → Z' (o + 11) l = 0 := by
  obtain ⟨Z', e, f, f', g⟩ := l_clearShown ho L W 8 0 Z rfl
  refine ⟨Z', ?_, f, f', fun l hl => by rw [g l hl, if_pos (Nat.zero_le _)]⟩
  rw [q_29_0, q_29_1]
  exact e
theorem c_clearCounts (c : Nat) (L : Nat) (Z : Nat → Nat → Int) (W : Nat → Nat) (hc : pm_kd c = 3) : pm_D (36, 0, [.ref c], [], pm_hp L Z W) = some (none, pm_hp L (pm_up (pm_up (pm_up (pm_up Z c 0 0) c 1 0) c 2 0) c 3 0) W) := by
  simp (disch := first | assumption | decide +kernel | omega | (split <;> omega)) only [q_36_0, q_36_1, q_36_2, q_36_5, q_36_6, q_36_7, q_36_10, q_36_11, q_36_12, q_36_15, q_36_16, q_36_17, q_36_20, pm_some, Option.toList_some, Option.toList_none, List.cons_append, List.nil_append, pm_i0, pm_i1, Nat.reduceAdd, Nat.reduceMul, Int.toNat_natCast, Int.toNat_zero]
theorem c_clearFogs (w : Nat) (L : Nat) (Z : Nat → Nat → Int) (W : Nat → Nat) (hc : pm_kd w = 6) : pm_D (66, 0, [.ref w], [], pm_hp L Z W) = some (none, pm_hp L (pm_up Z w 5 0) W) := by
  simp (disch := first | assumption | decide +kernel | omega | (split <;> omega)) only [q_66_0, q_66_1, q_66_2, q_66_5, pm_some, Option.toList_some, Option.toList_none, List.cons_append, List.nil_append, pm_i0, pm_i1, Nat.reduceAdd, Nat.reduceMul, Int.toNat_natCast, Int.toNat_zero]
theorem c_clearFaults (w : Nat) (L : Nat) (Z : Nat → Nat → Int) (W : Nat → Nat) (hc : pm_kd w = 1) : pm_D (12, 0, [.ref w], [], pm_hp L Z W) = some (none, pm_hp L (pm_up Z w 3 0) W) := by
  simp (disch := first | assumption | decide +kernel | omega | (split <;> omega)) only [q_12_0, q_12_1, q_12_2, q_12_5, pm_some, Option.toList_some, Option.toList_none, List.cons_append, List.nil_append, pm_i0, pm_i1, Nat.reduceAdd, Nat.reduceMul, Int.toNat_natCast, Int.toNat_zero]
theorem l_begin {o : Nat} (ho : pm_isL o) (x : Int) (L : Nat) (W : Nat → Nat) : ∀ (n k : Nat) (Z : Nat → Nat → Int), k + n = 7 → ∃ Z', pm_D (17, 31, [.ref o, .int (pm_J x), .int (pm_J (k : Int))], [], pm_hp L Z W) = pm_D (17, 52, [.ref o, .int (pm_J x), .int (pm_J 7)], [], pm_hp L Z' W) ∧ (∀ a, ¬ (o + 65 ≤ a ∧ a < o + 72) → Z' a = Z a) ∧ ∀ l q : Nat, l < 7 → q < 4 → Z' (o + 65 + l) q = if k ≤ l then 0 else Z (o + 65 + l) q := by
  obtain ⟨k1, k2, k3, k4, k5, k6, k7, k8, k9, k10, k11, -⟩ := pm_kdL ho
  intro n
  induction n with
  | zero =>
    intro k Z hk
    obtain rfl : k = 7 := by omega
    refine ⟨Z, ?_, fun _ _ => rfl, fun l q hl hq => (if_neg (by omega)).symm⟩
    rw [q_17_31]
    simp (disch := first | assumption | decide +kernel | omega | (split <;> omega)) only [q_17_0, q_17_1, q_17_4, q_17_7, q_17_8, q_17_11, q_17_14, q_17_15, q_17_16, q_17_19, q_17_20, q_17_21, q_17_24, q_17_25, q_17_26, q_17_29, q_17_30, q_17_32, q_17_34, q_17_37, q_17_38, q_17_41, q_17_42, q_17_43, q_17_46, q_17_49, q_17_53, q_17_56, q_17_57, q_17_60, pm_some, Option.toList_some, Option.toList_none, List.cons_append, List.nil_append, pm_i0, pm_i1, Nat.reduceAdd, Nat.reduceMul, Int.toNat_natCast, Int.toNat_zero, not_true_eq_false, not_false_eq_true, and_self, true_and, and_true, ↓reduceIte, Int.reduceEq, Int.reduceLT, Int.reduceLE, Int.reduceNeg, Bool.false_eq_true, Int.lt_irrefl, Int.reduceLT, Int.cast_ofNat_Int]
  | succ n ih =>
    intro k Z hk
    have hlt : (k : Int) < 7 := by omega
    have hc : pm_kd (o + 10 + 55 + k) = 3 := pm_kdC ho (by omega)
    obtain ⟨Z', e, f, g⟩ := ih (k + 1) (pm_up (pm_up (pm_up (pm_up Z (o + 10 + 55 + k) 0 0) (o + 10 + 55 + k) 1 0) (o + 10 + 55 + k) 2 0) (o + 10 + 55 + k) 3 0) (by omega)
    rw [show (((k + 1 : Nat)) : Int) = (k : Int) + 1 by omega] at e
    refine ⟨Z', ?_, fun a ha => ?_, fun l q hl hq => ?_⟩
    · rw [q_17_31]
      simp (disch := first | assumption | decide +kernel | omega | (split <;> omega)) only [q_17_0, q_17_1, q_17_4, q_17_7, q_17_8, q_17_11, q_17_14, q_17_15, q_17_16, q_17_19, q_17_20, q_17_21, q_17_24, q_17_25, q_17_26, q_17_29, q_17_30, q_17_32, q_17_34, q_17_37, q_17_38, q_17_41, q_17_42, q_17_43, q_17_46, q_17_49, q_17_52, q_17_53, q_17_56, q_17_57, q_17_60, c_clearCounts, pm_some, Option.toList_some, Option.toList_none, List.cons_append, List.nil_append, pm_i0, pm_i1, Nat.reduceAdd, Nat.reduceMul, Int.toNat_natCast, Int.toNat_zero, not_true_eq_false, not_false_eq_true, and_self, true_and, and_true, ↓reduceIte, Int.reduceEq, Int.reduceLT, Int.reduceLE, Int.reduceNeg, Bool.false_eq_true, hlt, e]
    · rw [f a ha, pm_up_row (by omega), pm_up_row (by omega), pm_up_row (by omega), pm_up_row (by omega)]
    · rw [g l q hl hq]
      by_cases hl' : l = k
      · subst hl'
        rw [if_neg (by omega), if_pos (Nat.le_refl _)]
        rcases (show q = 0 ∨ q = 1 ∨ q = 2 ∨ q = 3 by omega) with rfl | rfl | rfl | rfl <;> simp [pm_up]
      · rw [pm_up_row (by omega), pm_up_row (by omega), pm_up_row (by omega), pm_up_row (by omega)]
        by_cases h2 : k ≤ l
        · rw [if_pos (by omega), if_pos h2]
        · rw [if_neg (by omega), if_neg h2]
theorem c_begin {o : Nat} (ho : pm_isL o) (x : Int) (L : Nat) (Z : Nat → Nat → Int) (W : Nat → Nat) : ∃ Z', pm_D (17, 0, [.ref o, .int (pm_J x), .null], [], pm_hp L Z W) = some (none, pm_hp L Z' W) ∧ (∀ a, ¬ (o ≤ a ∧ a < o + 72) → Z' a = Z a) ∧ (Z' o 2 = x ∧ Z' o 3 = 0 ∧ Z' o 4 = 0 ∧ Z' o 11 = 0) ∧ (Z' (o + 1) 0 = Z (o + 1) 0 ∧ Z' (o + 1) 1 = Z (o + 1) 1 ∧ Z' (o + 1) 5 = 0) ∧ Z' (o + 5) 3 = 0 ∧ (∀ l q : Nat, l < 7 → q < 4 → Z' (o + 65 + l) q = 0) ∧ ∀ t, t < 8 → Z' (o + 11) t = 0 := by
  obtain ⟨k1, k2, k3, k4, k5, k6, k7, k8, k9, k10, k11, -⟩ := pm_kdL ho
  obtain ⟨Z1, e1, f1, g1⟩ := l_begin ho x L W 7 0 (pm_up (pm_up (pm_up (pm_up (pm_up Z (o + 1) 5 0) (o + 5) 3 0) o 2 x) o 3 0) o 4 0) rfl
  obtain ⟨Z2, e2, f2, -, g2⟩ := c_clearShown ho L Z1 W
  rw [show (((0 : Nat)) : Int) = 0 from rfl] at e1
  refine ⟨pm_up Z2 o 11 0, ?_, fun a ha => ?_, ⟨?_, ?_, ?_, ?_⟩, ⟨?_, ?_, ?_⟩, ?_, fun l q hl hq => ?_, fun t ht => ?_⟩
  · have e2' : ∀ (H : pm_D (29, 0, [.ref o, .null], [], pm_hp L Z1 W) = some (none, pm_hp L Z2 W)), pm_D (17, 52, [.ref o, .int (pm_J x), .int (pm_J 7)], [], pm_hp L Z1 W) = some (none, pm_hp L (pm_up Z2 o 11 0) W) := by
      intro H
      simp (disch := first | assumption | decide +kernel | omega | (split <;> omega)) only [q_17_0, q_17_1, q_17_4, q_17_7, q_17_8, q_17_11, q_17_14, q_17_15, q_17_16, q_17_19, q_17_20, q_17_21, q_17_24, q_17_25, q_17_26, q_17_29, q_17_30, q_17_32, q_17_34, q_17_37, q_17_38, q_17_41, q_17_42, q_17_43, q_17_46, q_17_49, q_17_52, q_17_53, q_17_56, q_17_57, q_17_60, H, c_forgetTasks, pm_some, Option.toList_some, Option.toList_none, List.cons_append, List.nil_append, pm_i0, pm_i1, Nat.reduceAdd, Nat.reduceMul, Int.toNat_natCast, Int.toNat_zero]
    simp (disch := first | assumption | decide +kernel | omega | (split <;> omega)) only [q_17_0, q_17_1, q_17_4, q_17_7, q_17_8, q_17_11, q_17_14, q_17_15, q_17_16, q_17_19, q_17_20, q_17_21, q_17_24, q_17_25, q_17_26, q_17_29, q_17_30, q_17_32, q_17_34, q_17_37, q_17_38, q_17_41, q_17_42, q_17_43, q_17_46, q_17_49, q_17_53, q_17_56, q_17_57, q_17_60, c_clearFogs, c_clearFaults, pm_some, Option.toList_some, Option.toList_none, List.cons_append, List.nil_append, pm_i0, pm_i1, Nat.reduceAdd, Nat.reduceMul, Int.toNat_natCast, Int.toNat_zero, e1]
    exact e2' e2
  · rw [pm_up_row (by omega), f2 a (by omega), f1 a (by omega)]
    simp (disch := omega) only [pm_up_row]
  · rw [pm_up_ne (by omega), f2 o (by omega), f1 o (by omega)]; simp [pm_up]
  · rw [pm_up_ne (by omega), f2 o (by omega), f1 o (by omega)]; simp [pm_up]
  · rw [pm_up_ne (by omega), f2 o (by omega), f1 o (by omega)]; simp [pm_up]
  · rw [pm_up_same]
  · rw [pm_up_row (by omega), f2 _ (by omega), f1 _ (by omega)]; simp [pm_up]
  · rw [pm_up_row (by omega), f2 _ (by omega), f1 _ (by omega)]; simp [pm_up]
  · rw [pm_up_row (by omega), f2 _ (by omega), f1 _ (by omega)]; simp [pm_up]
  · rw [pm_up_row (by omega), f2 _ (by omega), f1 _ (by omega)]; simp [pm_up]
  · rw [pm_up_row (by omega), f2 _ (by omega), g1 l q hl hq, if_pos (Nat.zero_le _)]
  · rw [pm_up_row (by omega), g2 t ht]
theorem l_R_zero (x y : Int) (L : Nat) (W : Nat → Nat) : ∀ (n k : Nat) (Z : Nat → Nat → Int), k + n = 2711 → ∃ Z', pm_D (109, 25, [.ref 190, .int (pm_J x), .int (pm_J y), .int (pm_J (k : Int))], [], pm_hp L Z W) = pm_D (109, 45, [.ref 190, .int (pm_J x), .int (pm_J y), .int (pm_J 2711)], [], pm_hp L Z' W) ∧ (∀ a, a ≠ 191 → Z' a = Z a) ∧ ∀ q : Nat, q < 2711 → Z' 191 q = if k ≤ q then 0 else Z 191 q := by
  intro n
  induction n with
  | zero =>
    intro k Z hk
    obtain rfl : k = 2711 := by omega
    refine ⟨Z, ?_, fun _ _ => rfl, fun l hl => (if_neg (by omega)).symm⟩
    rw [q_109_25]
    simp (disch := first | assumption | decide +kernel | omega | (split <;> omega)) only [q_109_0, q_109_1, q_109_2, q_109_4, q_109_7, q_109_10, q_109_12, q_109_13, q_109_14, q_109_17, q_109_18, q_109_19, q_109_20, q_109_23, q_109_24, q_109_26, q_109_29, q_109_32, q_109_33, q_109_36, q_109_37, q_109_38, q_109_39, q_109_42, q_109_46, q_109_47, q_109_50, q_109_51, q_109_52, q_109_55, q_109_56, q_109_57, q_109_60, q_109_61, pm_some, Option.toList_some, Option.toList_none, List.cons_append, List.nil_append, pm_i0, pm_i1, Nat.reduceAdd, Nat.reduceMul, Int.toNat_natCast, Int.toNat_zero, not_true_eq_false, not_false_eq_true, and_self, true_and, and_true, ↓reduceIte, Int.reduceEq, Int.reduceLT, Int.reduceLE, Int.reduceNeg, Bool.false_eq_true, Int.lt_irrefl, Int.reduceLT, Int.cast_ofNat_Int]
  | succ n ih =>
    intro k Z hk
    have hlt : (k : Int) < 2711 := by omega
    obtain ⟨Z', e, f, g⟩ := ih (k + 1) (pm_up Z 191 k 0) (by omega)
    rw [show (((k + 1 : Nat)) : Int) = (k : Int) + 1 by omega] at e
    refine ⟨Z', ?_, fun a ha => by rw [f a ha, pm_up_row ha], fun l hl => ?_⟩
    · rw [q_109_25]
      simp (disch := first | assumption | decide +kernel | omega | (split <;> omega)) only [q_109_0, q_109_1, q_109_2, q_109_4, q_109_7, q_109_10, q_109_12, q_109_13, q_109_14, q_109_17, q_109_18, q_109_19, q_109_20, q_109_23, q_109_24, q_109_26, q_109_29, q_109_32, q_109_33, q_109_36, q_109_37, q_109_38, q_109_39, q_109_42, q_109_45, q_109_46, q_109_47, q_109_50, q_109_51, q_109_52, q_109_55, q_109_56, q_109_57, q_109_60, q_109_61, pm_some, Option.toList_some, Option.toList_none, List.cons_append, List.nil_append, pm_i0, pm_i1, Nat.reduceAdd, Nat.reduceMul, Int.toNat_natCast, Int.toNat_zero, not_true_eq_false, not_false_eq_true, and_self, true_and, and_true, ↓reduceIte, Int.reduceEq, Int.reduceLT, Int.reduceLE, Int.reduceNeg, Bool.false_eq_true, hlt, e]
    · rw [g l hl]
      by_cases hl' : l = k
      · subst hl'
        rw [if_neg (by omega), if_pos (Nat.le_refl _), pm_up_same]
      · rw [pm_up_ne (by omega)]
        by_cases h2 : k ≤ l
        · rw [if_pos (by omega), if_pos h2]
        · rw [if_neg (by omega), if_neg h2]
theorem op_reset : Op_reset := by
  intro T L Z W hI hT0 hT a ha
  obtain ⟨⟨⟨a1, a2, a3, a4, a5, a6, a7, a8, a9, a10, a11⟩, ⟨⟨w1, w2, w3, w4, w5, w6⟩, ⟨w7, w8, w9⟩, w10⟩, ⟨⟨f1, f2, f3⟩, f4⟩, hms, hun, hco, hsh, htk⟩, htx, hbk, hon⟩ := id hI
  have a8' : 0 ≤ Z 46 4 := by omega
  have a9' : Z 46 4 ≤ 10 := by omega
  have a2' : 0 ≤ Z 46 2 := by omega
  have a3' : Z 46 2 ≤ 8 := by omega
  have a2'' : 0 ≤ Z 190 0 := by omega
  by_cases hm : 3 ≤ a ∧ a ≤ 8
  · obtain ⟨Z1, e1, f1, ⟨p1, p2, p3, p4⟩, ⟨p5, p6, p7⟩, p8, p9, p10⟩ := c_begin (o := 46) (Or.inl rfl) a L Z W
    have z190 := f1 190 (by omega)
    obtain ⟨Z2, e2, f2, g2⟩ := l_R_zero a (Z 190 0) L W 2711 0 (pm_up Z1 190 0 a) rfl
    rw [show (((0 : Nat)) : Int) = 0 from rfl] at e2
    have r0 : Z2 190 = (pm_up Z1 190 0 a) 190 := f2 190 (by omega)
    have rC : ∀ b, b < 190 → Z2 b = Z1 b := fun b hb => by rw [f2 b (by omega), pm_up_row (by omega)]
    have rR : ∀ b, 192 ≤ b → Z2 b = Z b := fun b hb => by rw [f2 b (by omega), pm_up_row (by omega), f1 b (by omega)]
    have z191 : ∀ q, q < 2711 → Z2 191 q = 0 := fun q hq => by rw [g2 q hq, if_pos (Nat.zero_le _)]
    refine ⟨Z 190 0, Z1, W, pm_up (pm_up (pm_up Z2 190 5 0) 190 9 0) 190 22 0, W, by omega, ?_, ?_, Inv.up ?_, f1 _ (by omega), ?_⟩
    · simp (disch := first | assumption | decide +kernel | omega | (split <;> omega)) only [q_75_0, q_75_1, q_75_2, q_75_4, q_75_7, q_75_10, q_75_12, q_75_13, q_75_14, q_75_17, q_75_20, q_75_21, q_75_22, q_75_25, q_75_26, q_75_29, q_75_30, c_isWithin, pm_some, Option.toList_some, Option.toList_none, List.cons_append, List.nil_append, pm_i0, pm_i1, Nat.reduceAdd, Nat.reduceMul, Int.toNat_natCast, Int.toNat_zero, hm, not_true_eq_false, not_false_eq_true, and_self, true_and, and_true, ↓reduceIte, Int.reduceEq, Int.reduceLT, Int.reduceLE, Int.reduceNeg, Bool.false_eq_true, a1, e1]
    · have z00 : Z1 190 0 = Z 190 0 := by rw [z190]
      have hfin : pm_D (109, 45, [.ref 190, .int (pm_J a), .int (pm_J (Z 190 0)), .int (pm_J 2711)], [], pm_hp L Z2 W) = some (some (.int (pm_J (Z 190 0))), pm_hp L (pm_up (pm_up (pm_up Z2 190 5 0) 190 9 0) 190 22 0) W) := by
        simp (disch := first | assumption | decide +kernel | omega | (split <;> omega)) only [q_109_0, q_109_1, q_109_2, q_109_4, q_109_7, q_109_10, q_109_12, q_109_13, q_109_14, q_109_17, q_109_18, q_109_19, q_109_20, q_109_23, q_109_24, q_109_26, q_109_29, q_109_32, q_109_33, q_109_36, q_109_37, q_109_38, q_109_39, q_109_42, q_109_45, q_109_46, q_109_47, q_109_50, q_109_51, q_109_52, q_109_55, q_109_56, q_109_57, q_109_60, q_109_61, pm_some, Option.toList_some, Option.toList_none, List.cons_append, List.nil_append, pm_i0, pm_i1, Nat.reduceAdd, Nat.reduceMul, Int.toNat_natCast, Int.toNat_zero]
      simp (disch := first | assumption | decide +kernel | omega | (split <;> omega)) only [q_109_0, q_109_1, q_109_2, q_109_4, q_109_7, q_109_10, q_109_12, q_109_13, q_109_14, q_109_17, q_109_18, q_109_19, q_109_20, q_109_23, q_109_24, q_109_26, q_109_29, q_109_32, q_109_33, q_109_36, q_109_37, q_109_38, q_109_39, q_109_42, q_109_46, q_109_47, q_109_50, q_109_51, q_109_52, q_109_55, q_109_56, q_109_57, q_109_60, q_109_61, c_in, pm_some, Option.toList_some, Option.toList_none, List.cons_append, List.nil_append, pm_i0, pm_i1, Nat.reduceAdd, Nat.reduceMul, Int.toNat_natCast, Int.toNat_zero, hm, not_true_eq_false, not_false_eq_true, and_self, true_and, and_true, ↓reduceIte, Int.reduceEq, Int.reduceLT, Int.reduceLE, Int.reduceNeg, Bool.false_eq_true, z00, e2]
      exact hfin
    · have u190 : ∀ q, q ≠ 0 → q ≠ 5 → q ≠ 9 → q ≠ 22 → pm_up (pm_up (pm_up Z2 190 5 0) 190 9 0) 190 22 0 190 q = Z 190 q := fun q h0 h1 h2 h3 => by
        rw [pm_up_ne (by omega), pm_up_ne (by omega), pm_up_ne (by omega), r0, pm_up_ne (by omega), z190]
      have u0 : pm_up (pm_up (pm_up Z2 190 5 0) 190 9 0) 190 22 0 190 0 = a := by rw [pm_up_ne (by omega), pm_up_ne (by omega), pm_up_ne (by omega), r0, pm_up_same]
      have u5 : pm_up (pm_up (pm_up Z2 190 5 0) 190 9 0) 190 22 0 190 5 = 0 := by rw [pm_up_ne (by omega), pm_up_ne (by omega), pm_up_same]
      have u9 : pm_up (pm_up (pm_up Z2 190 5 0) 190 9 0) 190 22 0 190 9 = 0 := by rw [pm_up_ne (by omega), pm_up_same]
      have u22 : pm_up (pm_up (pm_up Z2 190 5 0) 190 9 0) 190 22 0 190 22 = 0 := by rw [pm_up_same]
      have ur : ∀ b, b ≠ 190 → pm_up (pm_up (pm_up Z2 190 5 0) 190 9 0) 190 22 0 b = Z2 b := fun b hb => by rw [pm_up_row hb, pm_up_row hb, pm_up_row hb]
      generalize pm_up (pm_up (pm_up Z2 190 5 0) 190 9 0) 190 22 0 = Y at u190 u0 u5 u9 u22 ur ⊢
      have yC : ∀ b, b < 190 → Y b = Z1 b := fun b hb => by rw [ur b (by omega), rC b hb]
      have yR : ∀ b, 192 ≤ b → Y b = Z b := fun b hb => by rw [ur b (by omega), rR b hb]
      have y191 : ∀ q, q < 2711 → Y 191 q = 0 := fun q hq => by rw [ur 191 (by omega), z191 q hq]
      have y3 : Y 46 2 = a ∧ Y 46 3 = 0 ∧ Y 46 4 = 0 ∧ Y 46 11 = 0 := by rw [yC 46 (by omega)]; exact ⟨p1, p2, p3, p4⟩
      have y47 : Y 47 0 = Z 190 1 ∧ Y 47 1 = Z 190 2 ∧ Y 47 5 = 0 := by rw [yC 47 (by omega)]; exact ⟨p5.trans w1, p6.trans w2, p7⟩
      have y51 : Y 51 3 = 0 := by rw [yC 51 (by omega)]; exact p8
      have q1 := u190 1 (by omega) (by omega) (by omega) (by omega)
      have q2 := u190 2 (by omega) (by omega) (by omega) (by omega)
      refine ⟨⟨⟨?_, ?_, ?_, ?_, ?_, ?_, ?_, ?_, ?_, ?_, ?_⟩, ⟨⟨?_, ?_, ?_, ?_, ?_, ?_⟩, ⟨?_, ?_, ?_⟩, ?_⟩, ⟨⟨?_, ?_, ?_⟩, ?_⟩, ?_, ?_, ?_, ?_, ?_⟩, ?_, ?_, ?_⟩
      · rw [u0]; exact y3.1
      · rw [u0]; omega
      · rw [u0]; omega
      · rw [y191 0 (by omega)]; exact y3.2.1
      · rw [y191 0 (by omega)]; omega
      · rw [y191 0 (by omega)]; omega
      · rw [u22]; exact y3.2.2.1
      · rw [u22]; omega
      · rw [u22]; omega
      · rw [y3.2.2.2]; omega
      · rw [y3.2.2.2]; omega
      · rw [q1]; exact y47.1
      · rw [q2]; exact y47.2.1
      · rw [q1]; omega
      · rw [q1]; omega
      · rw [q2]; omega
      · rw [q1, q2]; omega
      · rw [u5]; exact y47.2.2
      · rw [u5]; omega
      · rw [u5]; omega
      · intro i hi
        rw [u5] at hi
        omega
      · rw [u9]; exact y51
      · rw [u9]; omega
      · rw [u9]; omega
      · intro i hi
        rw [u9] at hi
        omega
      · intro i hi
        rw [u22] at hi
        omega
      · intro i h1 h2
        refine ⟨y191 _ (by omega), y191 _ (by omega), fun t ht => ⟨y191 _ (by omega), y191 _ (by omega), y191 _ (by omega)⟩⟩
      · intro l k hl hk
        rw [yC _ (by omega), y191 _ (by omega)]
        exact ⟨p9 l k hl hk, by omega, by omega⟩
      · intro t ht ht'
        rw [yC _ (by omega), y191 _ (by omega)]
        exact ⟨p10 t ht, by omega, by omega⟩
      · intro h11
        rw [y3.2.2.2] at h11
        omega
      · exact tx_congr htx (by rw [yC 1 (by omega), f1 1 (by omega)]) (by rw [yC 2 (by omega), f1 2 (by omega)]) (u190 13 (by omega) (by omega) (by omega) (by omega)) (yR _ (by omega))
      · exact bk_congr hbk (by rw [yC 3 (by omega), f1 3 (by omega)]) (fun b h1 h2 => by rw [yC b (by omega), f1 b (by omega)]) (u190 15 (by omega) (by omega) (by omega) (by omega)) (yR _ (by omega)) (yR _ (by omega)) (yR _ (by omega)) (yR _ (by omega))
      · rw [u190 29 (by omega) (by omega) (by omega) (by omega)]; exact hon
    · rw [pm_up_row (by omega), pm_up_row (by omega), pm_up_row (by omega), rR _ (by omega)]
  · refine Op.same hI (-3) (by decide) ?_ ?_
    · simp (disch := first | assumption | decide +kernel | omega | (split <;> omega)) only [q_75_0, q_75_1, q_75_2, q_75_4, q_75_7, q_75_10, q_75_12, q_75_13, q_75_14, q_75_17, q_75_20, q_75_21, q_75_22, q_75_25, q_75_26, q_75_29, q_75_30, c_isWithin, pm_some, Option.toList_some, Option.toList_none, List.cons_append, List.nil_append, pm_i0, pm_i1, Nat.reduceAdd, Nat.reduceMul, Int.toNat_natCast, Int.toNat_zero, hm, not_true_eq_false, not_false_eq_true, and_self, true_and, and_true, ↓reduceIte, Int.reduceEq, Int.reduceLT, Int.reduceLE, Int.reduceNeg, Bool.false_eq_true]
    · simp (disch := first | assumption | decide +kernel | omega | (split <;> omega)) only [q_109_0, q_109_1, q_109_2, q_109_4, q_109_7, q_109_10, q_109_12, q_109_13, q_109_14, q_109_17, q_109_18, q_109_19, q_109_20, q_109_23, q_109_24, q_109_25, q_109_26, q_109_29, q_109_32, q_109_33, q_109_36, q_109_37, q_109_38, q_109_39, q_109_42, q_109_45, q_109_46, q_109_47, q_109_50, q_109_51, q_109_52, q_109_55, q_109_56, q_109_57, q_109_60, q_109_61, c_in, pm_some, Option.toList_some, Option.toList_none, List.cons_append, List.nil_append, pm_i0, pm_i1, Nat.reduceAdd, Nat.reduceMul, Int.toNat_natCast, Int.toNat_zero, hm, not_true_eq_false, not_false_eq_true, and_self, true_and, and_true, ↓reduceIte, Int.reduceEq, Int.reduceLT, Int.reduceLE, Int.reduceNeg, Bool.false_eq_true]
