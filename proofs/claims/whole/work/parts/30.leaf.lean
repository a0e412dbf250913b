/-! the small methods -/
abbrev pm_r (v : Int) : Prop := -2147483648 ≤ v ∧ v < 2147483648
theorem pm_i0 {c : Prop} [Decidable c] : ((if c then (1 : Int) else 0) = 0) = ¬ c := by by_cases h : c <;> simp [h]
theorem pm_i1 {c : Prop} [Decidable c] : ((if c then (0 : Int) else 1) = 0) = c := by by_cases h : c <;> simp [h]
theorem pm_some {r : Option Value} {h : pm_H} {α : Type} (f : pm_R → Option α) : (some (r, h) : Option pm_R).bind f = f (r, h) := rfl
theorem c_in (v a b : Int) (h : pm_H) (hv : pm_r v) (ha : pm_r a) (hb : pm_r b) : pm_D (106, 0, [.int (pm_J v), .int (pm_J a), .int (pm_J b)], [], h) = some (some (.int (pm_J (if a ≤ v ∧ v ≤ b then 1 else 0))), h) := by
  simp (disch := first | assumption | decide +kernel | omega | (split <;> omega)) only [q_106_0, q_106_1, q_106_2, q_106_5, q_106_6, q_106_7, q_106_10, q_106_11, q_106_14, q_106_15]
  split
  · rw [if_neg (by omega)]
  · split
    · rw [if_neg (by omega)]
    · rw [if_pos (by omega)]
theorem c_noTower (t : Int) (L : Nat) (Z : Nat → Nat → Int) (W : Nat → Nat) (ht : pm_r t) (h0 : 0 ≤ Z 190 0) (h1 : Z 190 0 ≤ 8) : pm_D (107, 0, [.ref 190, .int (pm_J t)], [], pm_hp L Z W) = some (some (.int (pm_J (if 0 ≤ t ∧ t < Z 190 0 then 0 else 1))), pm_hp L Z W) := by
  simp (disch := first | assumption | decide +kernel | omega | (split <;> omega)) only [q_107_0, q_107_1, q_107_2, q_107_3, q_107_6, q_107_7, q_107_8, q_107_11, q_107_14, q_107_15, q_107_18, q_107_19, c_in, pm_some, Option.toList_some, List.cons_append, List.nil_append, pm_i0]
  split
  · rw [if_neg (by omega)]
  · rw [if_pos (by omega)]
theorem c_noLink (t : Int) (L : Nat) (Z : Nat → Nat → Int) (W : Nat → Nat) (ht : pm_r t) (h0 : 0 ≤ Z 190 0) (h1 : Z 190 0 ≤ 8) : pm_D (108, 0, [.ref 190, .int (pm_J t)], [], pm_hp L Z W) = some (some (.int (pm_J (if 0 ≤ t ∧ t < Z 190 0 - 1 then 0 else 1))), pm_hp L Z W) := by
  simp (disch := first | assumption | decide +kernel | omega | (split <;> omega)) only [q_108_0, q_108_1, q_108_2, q_108_3, q_108_6, q_108_7, q_108_8, q_108_11, q_108_14, q_108_15, q_108_18, q_108_19, c_in, pm_some, Option.toList_some, List.cons_append, List.nil_append, pm_i0]
  split
  · rw [if_neg (by omega)]
  · rw [if_pos (by omega)]
theorem c_setDayR (a b : Int) (L : Nat) (Z : Nat → Nat → Int) (W : Nat → Nat) (ha : pm_r a) (hb : pm_r b) (h1 : pm_r (Z 190 1)) (h2 : pm_r (Z 190 2)) : pm_D (110, 0, [.ref 190, .int (pm_J a), .int (pm_J b), .null], [], pm_hp L Z W) = if ((1 ≤ a ∧ a ≤ 10000) ∧ 1 ≤ b ∧ b ≤ a) then some (some (.int (pm_J (if Z 190 1 = a ∧ Z 190 2 = b then 0 else 1))), pm_hp L (pm_up (pm_up Z 190 1 a) 190 2 b) W) else some (some (.int (pm_J (-3))), pm_hp L Z W) := by
  simp (disch := first | assumption | decide +kernel | omega | (split <;> omega)) only [q_110_0, q_110_1, q_110_2, q_110_5, q_110_8, q_110_11, q_110_12, q_110_13, q_110_14, q_110_17, q_110_20, q_110_22, q_110_23, q_110_24, q_110_27, q_110_28, q_110_31, q_110_32, q_110_35, q_110_36, q_110_39, q_110_40, q_110_43, q_110_44, q_110_45, q_110_46, q_110_47, q_110_50, q_110_51, q_110_52, q_110_55, q_110_56, c_in, pm_some, Option.toList_some, List.cons_append, List.nil_append, pm_i0]
  skip
