/-! words for what follows -/
abbrev pm_r (v : Int) : Prop := -2147483648 ≤ v ∧ v < 2147483648
theorem pm_i0 {c : Prop} [Decidable c] : ((if c then (1 : Int) else 0) = 0) = ¬ c := by by_cases h : c <;> simp [h]
theorem pm_i1 {c : Prop} [Decidable c] : ((if c then (0 : Int) else 1) = 0) = c := by by_cases h : c <;> simp [h]
theorem pm_some {r : Option Value} {h : pm_H} {α : Type} (f : pm_R → Option α) : (some (r, h) : Option pm_R).bind f = f (r, h) := rfl
theorem pm_up_same (Z : Nat → Nat → Int) (a j : Nat) (v : Int) : pm_up Z a j v a j = v := by simp [pm_up]
theorem pm_up_ne {Z : Nat → Nat → Int} {a j b i : Nat} {v : Int} (h : ¬ (b = a ∧ i = j)) : pm_up Z a j v b i = Z b i := by unfold pm_up; rw [if_neg h]
theorem pm_up_row {Z : Nat → Nat → Int} {a j b : Nat} {v : Int} (h : b ≠ a) : pm_up Z a j v b = Z b := by funext i; exact pm_up_ne (fun q => h q.1)
theorem pm_chr_r (a : Int) : 0 ≤ pm_chr a ∧ pm_chr a < 65536 := by
  unfold pm_chr
  generalize pm_J a = x
  have h : ((x.toUInt32 % 65536).toInt32.toInt) = ((x.toUInt32 % 65536).toNat : Int) := by
    have hlt : (x.toUInt32 % 65536).toNat < 65536 := by
      rw [UInt32.toNat_mod]
      exact Nat.mod_lt _ (by decide)
    generalize x.toUInt32 % 65536 = u at hlt ⊢
    show u.toBitVec.toInt = _
    rw [BitVec.toInt_eq_toNat_of_lt (by show 2 * u.toNat < 2 ^ 32; omega)]
    rfl
  rw [h, UInt32.toNat_mod]
  have := Nat.mod_lt x.toUInt32.toNat (show (65536 : UInt32).toNat > 0 by decide)
  have e : (65536 : UInt32).toNat = 65536 := rfl
  rw [e] at this ⊢
  omega
theorem c_in (v a b : Int) (h : pm_H) (hv : pm_r v) (ha : pm_r a) (hb : pm_r b) : pm_D (106, 0, [.int (pm_J v), .int (pm_J a), .int (pm_J b)], [], h) = some (some (.int (pm_J (if a ≤ v ∧ v ≤ b then 1 else 0))), h) := by
  simp (disch := first | assumption | decide +kernel | omega | (split <;> omega)) only [q_106_0, q_106_1, q_106_2, q_106_5, q_106_6, q_106_7, q_106_10, q_106_11, q_106_14, q_106_15]
  split
  · rw [if_neg (by omega)]
  · split
    · rw [if_neg (by omega)]
    · rw [if_pos (by omega)]
theorem c_isWithin (v a b : Int) (h : pm_H) (hv : pm_r v) (ha : pm_r a) (hb : pm_r b) : pm_D (101, 0, [.int (pm_J v), .int (pm_J a), .int (pm_J b)], [], h) = some (some (.int (pm_J (if a ≤ v ∧ v ≤ b then 1 else 0))), h) := by
  simp (disch := first | assumption | decide +kernel | omega | (split <;> omega)) only [q_101_0, q_101_1, q_101_2, q_101_5, q_101_6, q_101_7, q_101_10, q_101_11, q_101_14, q_101_15]
  split
  · rw [if_neg (by omega)]
  · split
    · rw [if_neg (by omega)]
    · rw [if_pos (by omega)]
theorem c_noTower (t : Int) (L : Nat) (Z : Nat → Nat → Int) (W : Nat → Nat) (ht : pm_r t) (h0 : 0 ≤ Z 190 0) (h1 : Z 190 0 ≤ 8) : pm_D (107, 0, [.ref 190, .int (pm_J t)], [], pm_hp L Z W) = some (some (.int (pm_J (if 0 ≤ t ∧ t < Z 190 0 then 0 else 1))), pm_hp L Z W) := by
  simp (disch := first | assumption | decide +kernel | omega | (split <;> omega)) only [q_107_0, q_107_1, q_107_2, q_107_3, q_107_6, q_107_7, q_107_8, q_107_11, q_107_14, q_107_15, q_107_18, q_107_19, c_in, pm_some, Option.toList_some, Option.toList_none, List.cons_append, List.nil_append, pm_i0, pm_i1, Nat.reduceAdd, Nat.reduceMul, Int.toNat_natCast]
  split
  · rw [if_neg (by omega)]
  · rw [if_pos (by omega)]
theorem c_noLink (t : Int) (L : Nat) (Z : Nat → Nat → Int) (W : Nat → Nat) (ht : pm_r t) (h0 : 0 ≤ Z 190 0) (h1 : Z 190 0 ≤ 8) : pm_D (108, 0, [.ref 190, .int (pm_J t)], [], pm_hp L Z W) = some (some (.int (pm_J (if 0 ≤ t ∧ t < Z 190 0 - 1 then 0 else 1))), pm_hp L Z W) := by
  simp (disch := first | assumption | decide +kernel | omega | (split <;> omega)) only [q_108_0, q_108_1, q_108_2, q_108_3, q_108_6, q_108_7, q_108_8, q_108_11, q_108_14, q_108_15, q_108_18, q_108_19, c_in, pm_some, Option.toList_some, Option.toList_none, List.cons_append, List.nil_append, pm_i0, pm_i1, Nat.reduceAdd, Nat.reduceMul, Int.toNat_natCast]
  split
  · rw [if_neg (by omega)]
  · rw [if_pos (by omega)]
theorem c_noMessage (t : Int) (L : Nat) (Z : Nat → Nat → Int) (W : Nat → Nat) (ht : pm_r t) (h0 : 0 ≤ Z 190 22) (h1 : Z 190 22 ≤ 10) : pm_D (132, 0, [.ref 190, .int (pm_J t)], [], pm_hp L Z W) = some (some (.int (pm_J (if 0 ≤ t ∧ t < Z 190 22 then 0 else 1))), pm_hp L Z W) := by
  simp (disch := first | assumption | decide +kernel | omega | (split <;> omega)) only [q_132_0, q_132_1, q_132_2, q_132_3, q_132_6, q_132_7, q_132_8, q_132_11, q_132_14, q_132_15, q_132_18, q_132_19, c_in, pm_some, Option.toList_some, Option.toList_none, List.cons_append, List.nil_append, pm_i0, pm_i1, Nat.reduceAdd, Nat.reduceMul, Int.toNat_natCast]
  split
  · rw [if_neg (by omega)]
  · rw [if_pos (by omega)]
theorem c_hasTower (o : Nat) (t : Int) (L : Nat) (Z : Nat → Nat → Int) (W : Nat → Nat) (ho : pm_kd o = 2) (ht : pm_r t) (h0 : 0 ≤ Z o 2) (h1 : Z o 2 ≤ 8) : pm_D (19, 0, [.ref o, .int (pm_J t)], [], pm_hp L Z W) = some (some (.int (pm_J (if 0 ≤ t ∧ t < Z o 2 then 1 else 0))), pm_hp L Z W) := by
  simp (disch := first | assumption | decide +kernel | omega | (split <;> omega)) only [q_19_0, q_19_1, q_19_4, q_19_5, q_19_6, q_19_9, q_19_12, q_19_13, q_19_16, q_19_17]
  split
  · rw [if_neg (by omega)]
  · split
    · rw [if_pos (by omega)]
    · rw [if_neg (by omega)]
theorem c_hasLink (o : Nat) (t : Int) (L : Nat) (Z : Nat → Nat → Int) (W : Nat → Nat) (ho : pm_kd o = 2) (ht : pm_r t) (h0 : 0 ≤ Z o 2) (h1 : Z o 2 ≤ 8) : pm_D (20, 0, [.ref o, .int (pm_J t)], [], pm_hp L Z W) = some (some (.int (pm_J (if 0 ≤ t ∧ t < Z o 2 - 1 then 1 else 0))), pm_hp L Z W) := by
  simp (disch := first | assumption | decide +kernel | omega | (split <;> omega)) only [q_20_0, q_20_1, q_20_4, q_20_5, q_20_6, q_20_9, q_20_10, q_20_11, q_20_14, q_20_15, q_20_18, q_20_19]
  split
  · rw [if_neg (by omega)]
  · split
    · rw [if_pos (by omega)]
    · rw [if_neg (by omega)]
theorem c_hasMessage (o : Nat) (t : Int) (L : Nat) (Z : Nat → Nat → Int) (W : Nat → Nat) (ho : pm_kd o = 2) (ht : pm_r t) (h0 : 0 ≤ Z o 4) (h1 : Z o 4 ≤ 10) : pm_D (21, 0, [.ref o, .int (pm_J t)], [], pm_hp L Z W) = some (some (.int (pm_J (if 0 ≤ t ∧ t < Z o 4 then 1 else 0))), pm_hp L Z W) := by
  simp (disch := first | assumption | decide +kernel | omega | (split <;> omega)) only [q_21_0, q_21_1, q_21_4, q_21_5, q_21_6, q_21_9, q_21_12, q_21_13, q_21_16, q_21_17]
  split
  · rw [if_neg (by omega)]
  · split
    · rw [if_pos (by omega)]
    · rw [if_neg (by omega)]
theorem c_isPriority (v : Int) (h : Nat) (Z : Nat → Nat → Int) (W : Nat → Nat) (hv : pm_r v) : pm_D (102, 0, [.int (pm_J v)], [], pm_hp h Z W) = some (some (.int (pm_J (if 0 ≤ v ∧ v ≤ 2 then 1 else 0))), pm_hp h Z W) := by
  simp (disch := first | assumption | decide +kernel | omega | (split <;> omega)) only [q_102_0, q_102_1, q_102_2, q_102_3, q_102_6, c_isWithin, pm_some, Option.toList_some, Option.toList_none, List.cons_append, List.nil_append, pm_i0, pm_i1, Nat.reduceAdd, Nat.reduceMul, Int.toNat_natCast]
theorem c_isBookNumber (v : Int) (h : Nat) (Z : Nat → Nat → Int) (W : Nat → Nat) (hv : pm_r v) : pm_D (103, 0, [.int (pm_J v)], [], pm_hp h Z W) = some (some (.int (pm_J (if 30 ≤ v ∧ v ≤ 95 then 1 else 0))), pm_hp h Z W) := by
  simp (disch := first | assumption | decide +kernel | omega | (split <;> omega)) only [q_103_0, q_103_1, q_103_3, q_103_5, q_103_8, c_isWithin, pm_some, Option.toList_some, Option.toList_none, List.cons_append, List.nil_append, pm_i0, pm_i1, Nat.reduceAdd, Nat.reduceMul, Int.toNat_natCast]
theorem c_R_isUnderWay (i : Int) (L : Nat) (Z : Nat → Nat → Int) (W : Nat → Nat) (h0 : 0 ≤ i) (h1 : i < 10) (hr : pm_r (Z 191 (1 + i).toNat)) : pm_D (133, 0, [.ref 190, .int (pm_J i)], [], pm_hp L Z W) = some (some (.int (pm_J (if Z 191 (1 + i).toNat = 0 then 1 else 0))), pm_hp L Z W) := by
  simp (disch := first | assumption | decide +kernel | omega | (split <;> omega)) only [q_133_0, q_133_1, q_133_4, q_133_5, q_133_6, q_133_7, q_133_8, q_133_11, q_133_12, q_133_15, q_133_16, pm_some, Option.toList_some, Option.toList_none, List.cons_append, List.nil_append, pm_i0, pm_i1, Nat.reduceAdd, Nat.reduceMul, Int.toNat_natCast]
  split
  · rfl
  · rfl
theorem c_R_copyLong (i t : Int) (L : Nat) (Z : Nat → Nat → Int) (W : Nat → Nat) (h0 : 0 ≤ i) (h1 : i < 10) (h2 : 0 ≤ t) (h3 : t < 8) : pm_D (128, 0, [.ref 190, .int (pm_J i), .int (pm_J t)], [], pm_hp L Z W) = some (some (.int (pm_J (Z 191 (31 + 8 * i + t).toNat))), pm_hp L Z W) := by
  simp (disch := first | assumption | decide +kernel | omega | (split <;> omega)) only [q_128_0, q_128_1, q_128_4, q_128_6, q_128_8, q_128_9, q_128_10, q_128_11, q_128_12, q_128_13, q_128_14, pm_some, Option.toList_some, Option.toList_none, List.cons_append, List.nil_append, pm_i0, pm_i1, Nat.reduceAdd, Nat.reduceMul, Int.toNat_natCast]
theorem c_R_signAt (i t k : Int) (L : Nat) (Z : Nat → Nat → Int) (W : Nat → Nat) (h0 : 0 ≤ i) (h1 : i < 10) (h2 : 0 ≤ t) (h3 : t < 8) (h4 : 0 ≤ k) (h5 : k < 30) : pm_D (129, 0, [.ref 190, .int (pm_J i), .int (pm_J t), .int (pm_J k)], [], pm_hp L Z W) = some (some (.int (pm_J (Z 191 (311 + 30 * (8 * i + t) + k).toNat))), pm_hp L Z W) := by
  simp (disch := first | assumption | decide +kernel | omega | (split <;> omega)) only [q_129_0, q_129_1, q_129_4, q_129_7, q_129_9, q_129_11, q_129_12, q_129_13, q_129_14, q_129_15, q_129_16, q_129_17, q_129_18, q_129_19, q_129_20, pm_some, Option.toList_some, Option.toList_none, List.cons_append, List.nil_append, pm_i0, pm_i1, Nat.reduceAdd, Nat.reduceMul, Int.toNat_natCast]
theorem c_isUnderWay (a : Nat) (L : Nat) (Z : Nat → Nat → Int) (W : Nat → Nat) (ha : pm_kd a = 4) (hr : pm_r (Z a 7)) : pm_D (42, 0, [.ref a], [], pm_hp L Z W) = some (some (.int (pm_J (if Z a 7 = 0 then 1 else 0))), pm_hp L Z W) := by
  simp (disch := first | assumption | decide +kernel | omega | (split <;> omega)) only [q_42_0, q_42_1, q_42_4, q_42_7, q_42_8, q_42_11, q_42_12]
  split
  · rfl
  · rfl
theorem c_forgetTasks (o : Nat) (L : Nat) (Z : Nat → Nat → Int) (W : Nat → Nat) (ho : pm_kd o = 2) : pm_D (26, 0, [.ref o], [], pm_hp L Z W) = some (none, pm_hp L (pm_up Z o 11 0) W) := by
  simp (disch := first | assumption | decide +kernel | omega | (split <;> omega)) only [q_26_0, q_26_1, q_26_2, q_26_5]
theorem c_passesTower (a : Nat) (t : Int) (L : Nat) (Z : Nat → Nat → Int) (W : Nat → Nat) (ha : pm_kd a = 4) (ht : pm_r t) (h1 : pm_r (Z a 3)) (h2 : pm_r (Z a 4)) : pm_D (43, 0, [.ref a, .int (pm_J t)], [], pm_hp L Z W) = some (some (.int (pm_J (if Z a 3 ≤ t ∧ t ≤ Z a 4 then 1 else 0))), pm_hp L Z W) := by
  simp (disch := first | assumption | decide +kernel | omega | (split <;> omega)) only [q_43_0, q_43_1, q_43_2, q_43_5, q_43_8, q_43_9, q_43_10, q_43_13, q_43_16, q_43_17, q_43_20, q_43_21]
  split
  · rw [if_neg (by omega)]
  · split
    · rw [if_neg (by omega)]
    · rw [if_pos (by omega)]
theorem c_passesLink (a : Nat) (t : Int) (L : Nat) (Z : Nat → Nat → Int) (W : Nat → Nat) (ha : pm_kd a = 4) (ht : pm_r t) (h1 : pm_r (Z a 3)) (h2 : pm_r (Z a 4)) : pm_D (44, 0, [.ref a, .int (pm_J t)], [], pm_hp L Z W) = some (some (.int (pm_J (if Z a 3 ≤ t ∧ t < Z a 4 then 1 else 0))), pm_hp L Z W) := by
  simp (disch := first | assumption | decide +kernel | omega | (split <;> omega)) only [q_44_0, q_44_1, q_44_2, q_44_5, q_44_8, q_44_9, q_44_10, q_44_13, q_44_16, q_44_17, q_44_20, q_44_21]
  split
  · rw [if_neg (by omega)]
  · split
    · rw [if_pos (by omega)]
    · rw [if_neg (by omega)]
theorem c_towerBefore (a : Nat) (t : Int) (L : Nat) (Z : Nat → Nat → Int) (W : Nat → Nat) (ha : pm_kd a = 4) (h1 : pm_r (Z a 2)) : pm_D (45, 0, [.ref a, .int (pm_J t)], [], pm_hp L Z W) = some (some (.int (pm_J (if Z a 2 = 0 then t + 1 else t))), pm_hp L Z W) := by
  simp (disch := first | assumption | decide +kernel | omega | (split <;> omega)) only [q_45_0, q_45_1, q_45_4, q_45_7, q_45_8, q_45_11, q_45_12, q_45_13, q_45_14]
  split
  · rfl
  · rfl
theorem c_towerBehind (a : Nat) (t : Int) (L : Nat) (Z : Nat → Nat → Int) (W : Nat → Nat) (ha : pm_kd a = 4) (h1 : pm_r (Z a 2)) : pm_D (46, 0, [.ref a, .int (pm_J t)], [], pm_hp L Z W) = some (some (.int (pm_J (if Z a 2 = 0 then t else t + 1))), pm_hp L Z W) := by
  simp (disch := first | assumption | decide +kernel | omega | (split <;> omega)) only [q_46_0, q_46_1, q_46_4, q_46_7, q_46_8, q_46_9, q_46_10, q_46_13, q_46_14]
  split
  · rfl
  · rfl
