/-! what the towers take: the model -/
def rk_can (Z : Nat → Nat → Int) (i : Nat) (l : Int) : Bool := md_can Z i l && (decide (Z 190 29 < 0) || decide (Z 190 29 = (i : Int)))
def rk_lk (Z : Nat → Nat → Int) (i : Nat) (t : Int) : Int :=
  if rk_can Z i (if Z 205 i < Z 206 i then t else t - 1) = true then (if Z 205 i < Z 206 i then t else t - 1)
  else if rk_can Z i (if Z 205 i < Z 206 i then t - 1 else t) = true then (if Z 205 i < Z 206 i then t - 1 else t) else -6
def rk_pick (Z : Nat → Nat → Int) (t : Int) : Nat → Int × Int
  | 0 => (-6, -6)
  | k + 1 => if rk_lk Z k t ≠ -6 ∧ ((rk_pick Z t k).1 < 0 ∨ md_rk Z (rk_pick Z t k).1.toNat < md_rk Z k) then ((k : Int), rk_lk Z k t) else rk_pick Z t k
theorem rk_pick_succ (Z : Nat → Nat → Int) (t : Int) (k : Nat) : rk_pick Z t (k + 1) = if rk_lk Z k t ≠ -6 ∧ ((rk_pick Z t k).1 < 0 ∨ md_rk Z (rk_pick Z t k).1.toNat < md_rk Z k) then ((k : Int), rk_lk Z k t) else rk_pick Z t k := rfl
theorem rk_pick_eq {Z : Nat → Nat → Int} (h : Z 190 29 = -1) (t : Int) : ∀ k : Nat, rk_pick Z t k = md_pick Z t k
  | 0 => rfl
  | k + 1 => by
    have ih := rk_pick_eq h t k
    have e : ∀ l, rk_can Z k l = md_can Z k l := fun l => by
      unfold rk_can
      rw [h]
      simp
    rw [rk_pick_succ, ih]
    unfold rk_lk
    simp only [e]
    rfl
theorem rk_pick_lt (Z : Nat → Nat → Int) (t : Int) : ∀ k : Nat, (rk_pick Z t k = (-6, -6) ∨ (0 ≤ (rk_pick Z t k).1 ∧ (rk_pick Z t k).1 < k))
  | 0 => Or.inl rfl
  | k + 1 => by
    have ih := rk_pick_lt Z t k
    rw [rk_pick_succ]
    split
    · refine Or.inr ⟨?_, ?_⟩
      · show 0 ≤ (k : Int)
        omega
      · show (k : Int) < _
        omega
    · rcases ih with h | h
      · exact Or.inl h
      · exact Or.inr (by omega)
theorem rk_pick_neg (Z : Nat → Nat → Int) (t : Int) (k : Nat) : ∀ n : Nat, (rk_pick Z t (k + n)).1 < 0 → (rk_pick Z t k).1 < 0
  | 0, h => h
  | n + 1, h => by
    apply rk_pick_neg Z t k n
    rw [← Nat.add_assoc, rk_pick_succ] at h
    split at h
    · have : ((k + n : Nat) : Int) < 0 := h
      omega
    · exact h
/-- the model's rows can be looked at -/
def rok (Z : Nat → Nat → Int) : Prop := 3 ≤ Z 190 0 ∧ Z 190 0 ≤ 8 ∧ 0 ≤ Z 190 22 ∧ Z 190 22 ≤ 10 ∧ pm_r (Z 190 29) ∧ ∀ i : Nat, (i : Int) < Z 190 22 → (0 ≤ Z 205 i ∧ Z 205 i < Z 190 0 ∧ 0 ≤ Z 206 i ∧ Z 206 i < Z 190 0) ∧ (0 ≤ Z 207 i ∧ Z 207 i ≤ 2) ∧ pm_r (Z 191 (1 + i)) ∧ ∀ t : Nat, (if Z 205 i < Z 206 i then Z 205 i else Z 206 i) ≤ t → (t : Int) ≤ (if Z 205 i < Z 206 i then Z 206 i else Z 205 i) → pm_r (Z 191 (31 + 8 * i + t))
theorem rok_congr {Z Z' : Nat → Nat → Int} (h : rok Z) (h0 : Z' 190 = Z 190) (h1 : Z' 191 = Z 191) (h5 : Z' 205 = Z 205) (h6 : Z' 206 = Z 206) (h7 : Z' 207 = Z 207) : rok Z' := by
  unfold rok at h ⊢
  rw [h0, h1, h5, h6, h7]
  exact h
theorem c_R_before (a t : Int) (L : Nat) (Z : Nat → Nat → Int) (W : Nat → Nat) (h0 : 0 ≤ a) (h1 : a < 10) (h2 : pm_r (Z 205 a.toNat)) (h3 : pm_r (Z 206 a.toNat)) : pm_D (149, 0, [.ref 190, .int (pm_J a), .int (pm_J t)], [], pm_hp L Z W) = some (some (.int (pm_J (if Z 205 a.toNat < Z 206 a.toNat then t else t + 1))), pm_hp L Z W) := by
  by_cases hu : Z 205 a.toNat < Z 206 a.toNat
  · simp (disch := first | assumption | decide +kernel | omega | (split <;> omega)) only [q_149_0, q_149_1, q_149_2, q_149_5, q_149_8, q_149_9, q_149_12, q_149_13, q_149_14, q_149_15, c_R_goesUp, pm_some, Option.toList_some, Option.toList_none, List.cons_append, List.nil_append, pm_i0, pm_i1, Nat.reduceAdd, Nat.reduceMul, Int.toNat_natCast, Int.toNat_zero, hu, not_true_eq_false, not_false_eq_true, and_self, true_and, and_true, ↓reduceIte, Int.reduceEq, Int.reduceLT, Int.reduceLE, Int.reduceNeg, Bool.false_eq_true]
  · simp (disch := first | assumption | decide +kernel | omega | (split <;> omega)) only [q_149_0, q_149_1, q_149_2, q_149_5, q_149_8, q_149_9, q_149_12, q_149_13, q_149_14, q_149_15, c_R_goesUp, pm_some, Option.toList_some, Option.toList_none, List.cons_append, List.nil_append, pm_i0, pm_i1, Nat.reduceAdd, Nat.reduceMul, Int.toNat_natCast, Int.toNat_zero, hu, not_true_eq_false, not_false_eq_true, and_self, true_and, and_true, ↓reduceIte, Int.reduceEq, Int.reduceLT, Int.reduceLE, Int.reduceNeg, Bool.false_eq_true]
theorem c_R_behind (a t : Int) (L : Nat) (Z : Nat → Nat → Int) (W : Nat → Nat) (h0 : 0 ≤ a) (h1 : a < 10) (h2 : pm_r (Z 205 a.toNat)) (h3 : pm_r (Z 206 a.toNat)) : pm_D (150, 0, [.ref 190, .int (pm_J a), .int (pm_J t)], [], pm_hp L Z W) = some (some (.int (pm_J (if Z 205 a.toNat < Z 206 a.toNat then t + 1 else t))), pm_hp L Z W) := by
  by_cases hu : Z 205 a.toNat < Z 206 a.toNat
  · simp (disch := first | assumption | decide +kernel | omega | (split <;> omega)) only [q_150_0, q_150_1, q_150_2, q_150_5, q_150_8, q_150_9, q_150_10, q_150_11, q_150_14, q_150_15, c_R_goesUp, pm_some, Option.toList_some, Option.toList_none, List.cons_append, List.nil_append, pm_i0, pm_i1, Nat.reduceAdd, Nat.reduceMul, Int.toNat_natCast, Int.toNat_zero, hu, not_true_eq_false, not_false_eq_true, and_self, true_and, and_true, ↓reduceIte, Int.reduceEq, Int.reduceLT, Int.reduceLE, Int.reduceNeg, Bool.false_eq_true]
  · simp (disch := first | assumption | decide +kernel | omega | (split <;> omega)) only [q_150_0, q_150_1, q_150_2, q_150_5, q_150_8, q_150_9, q_150_10, q_150_11, q_150_14, q_150_15, c_R_goesUp, pm_some, Option.toList_some, Option.toList_none, List.cons_append, List.nil_append, pm_i0, pm_i1, Nat.reduceAdd, Nat.reduceMul, Int.toNat_natCast, Int.toNat_zero, hu, not_true_eq_false, not_false_eq_true, and_self, true_and, and_true, ↓reduceIte, Int.reduceEq, Int.reduceLT, Int.reduceLE, Int.reduceNeg, Bool.false_eq_true]
theorem c_R_canUse (i : Nat) (l : Int) (L : Nat) (Z : Nat → Nat → Int) (W : Nat → Nat) (h : rok Z) (hi : (i : Int) < Z 190 22) (hl : pm_r l) : pm_D (151, 0, [.ref 190, .int (pm_J (i : Int)), .int (pm_J l), .null], [], pm_hp L Z W) = some (some (.int (pm_J (if rk_can Z i l = true then 1 else 0))), pm_hp L Z W) := by
  obtain ⟨b1, b2, b3, b4, b5, hm⟩ := h
  obtain ⟨⟨m1, m2, m3, m4⟩, ⟨m5, m6⟩, m7, m8⟩ := hm i hi
  have e1 : (1 + (i : Int)).toNat = 1 + i := by omega
  have r1 : pm_r (Z 191 (1 + (i : Int)).toNat) := by rw [e1]; exact m7
  have c0 : 0 ≤ (i : Int) := by omega
  have c1 : (i : Int) < 10 := by omega
  have r5 : pm_r (Z 205 (i : Int).toNat) := by rw [Int.toNat_natCast]; omega
  have r6 : pm_r (Z 206 (i : Int).toNat) := by rw [Int.toNat_natCast]; omega
  have t1 : 0 ≤ Z 205 (i : Int).toNat := by rw [Int.toNat_natCast]; omega
  have t2 : 0 ≤ Z 206 (i : Int).toNat := by rw [Int.toNat_natCast]; omega
  have t3 : Z 205 (i : Int).toNat < 8 := by rw [Int.toNat_natCast]; omega
  have t4 : Z 206 (i : Int).toNat < 8 := by rw [Int.toNat_natCast]; omega
  have hu := c_R_isUnderWay (i : Int) L Z W c0 c1 r1
  have hw := c_R_isLinkOnWay (i : Int) l L Z W hl c0 c1 t1 t2 t3 t4
  have hbe := c_R_before (i : Int) l L Z W c0 c1 r5 r6
  have hbh := c_R_behind (i : Int) l L Z W c0 c1 r5 r6
  rw [e1] at hu
  rw [Int.toNat_natCast] at hw hbe hbh
  unfold rk_can md_can
  by_cases x1 : Z 191 (1 + i) = 0
  · by_cases x2 : (if Z 205 i < Z 206 i then Z 205 i else Z 206 i) ≤ l ∧ l < (if Z 205 i < Z 206 i then Z 206 i else Z 205 i)
    · rw [if_pos x2] at hw
      have x21 := x2.1
      have x22 := x2.2
      have l0 : 0 ≤ l ∧ l < 7 := by
        by_cases g : Z 205 i < Z 206 i
        · rw [if_pos g] at x21 x22; omega
        · rw [if_neg g] at x21 x22; omega
      have q1 := m8 l.toNat (by omega) (by omega)
      have q2 := m8 (l + 1).toNat (by omega) (by omega)
      have f1 : (31 + 8 * (i : Int) + l).toNat = 31 + 8 * i + l.toNat := by omega
      have f2 : (31 + 8 * (i : Int) + (l + 1)).toNat = 31 + 8 * i + (l + 1).toNat := by omega
      by_cases x3 : Z 190 29 < 0 ∨ Z 190 29 = (i : Int)
      · have x3' : (decide (Z 190 29 < 0) || decide (Z 190 29 = (i : Int))) = true := by
          simp only [Bool.or_eq_true, decide_eq_true_eq]
          exact x3
        rw [x3']
        have hp : pm_D (151, 17, [.ref 190, .int (pm_J (i : Int)), .int (pm_J l), .null], [], pm_hp L Z W) = pm_D (151, 37, [.ref 190, .int (pm_J (i : Int)), .int (pm_J l), .null], [.int (pm_J 1)], pm_hp L Z W) := by
          by_cases y1 : Z 190 29 < 0
          · simp (disch := first | assumption | decide +kernel | omega | (split <;> omega)) only [q_151_0, q_151_1, q_151_2, q_151_5, q_151_8, q_151_9, q_151_10, q_151_11, q_151_14, q_151_17, q_151_18, q_151_21, q_151_24, q_151_25, q_151_28, q_151_29, q_151_32, q_151_33, q_151_36, q_151_38, q_151_39, q_151_42, q_151_43, q_151_44, q_151_45, q_151_46, q_151_47, q_151_50, q_151_53, q_151_54, q_151_55, q_151_56, q_151_57, q_151_58, q_151_61, q_151_64, q_151_67, q_151_68, q_151_71, q_151_72, pm_some, Option.toList_some, Option.toList_none, List.cons_append, List.nil_append, pm_i0, pm_i1, Nat.reduceAdd, Nat.reduceMul, Int.toNat_natCast, Int.toNat_zero, y1, not_true_eq_false, not_false_eq_true, and_self, true_and, and_true, ↓reduceIte, Int.reduceEq, Int.reduceLT, Int.reduceLE, Int.reduceNeg, Bool.false_eq_true]
          · have y2 : Z 190 29 = (i : Int) := by omega
            have y3 : ¬ (i : Int) < 0 := by omega
            simp (disch := first | assumption | decide +kernel | omega | (split <;> omega)) only [q_151_0, q_151_1, q_151_2, q_151_5, q_151_8, q_151_9, q_151_10, q_151_11, q_151_14, q_151_17, q_151_18, q_151_21, q_151_24, q_151_25, q_151_28, q_151_29, q_151_32, q_151_33, q_151_36, q_151_38, q_151_39, q_151_42, q_151_43, q_151_44, q_151_45, q_151_46, q_151_47, q_151_50, q_151_53, q_151_54, q_151_55, q_151_56, q_151_57, q_151_58, q_151_61, q_151_64, q_151_67, q_151_68, q_151_71, q_151_72, pm_some, Option.toList_some, Option.toList_none, List.cons_append, List.nil_append, pm_i0, pm_i1, Nat.reduceAdd, Nat.reduceMul, Int.toNat_natCast, Int.toNat_zero, y2, y3, not_true_eq_false, not_false_eq_true, and_self, true_and, and_true, ↓reduceIte, Int.reduceEq, Int.reduceLT, Int.reduceLE, Int.reduceNeg, Bool.false_eq_true]
        by_cases g : Z 205 i < Z 206 i
        · rw [if_pos g] at hbe hbh x21 x22
          by_cases x4 : Z 191 (31 + 8 * i + (l + 1).toNat) < Z 191 (31 + 8 * i + l.toNat)
          · simp (disch := first | assumption | decide +kernel | omega | (split <;> omega)) only [q_151_0, q_151_1, q_151_2, q_151_5, q_151_8, q_151_9, q_151_10, q_151_11, q_151_14, q_151_18, q_151_21, q_151_24, q_151_25, q_151_28, q_151_29, q_151_32, q_151_33, q_151_36, q_151_38, q_151_39, q_151_42, q_151_43, q_151_44, q_151_45, q_151_46, q_151_47, q_151_50, q_151_53, q_151_54, q_151_55, q_151_56, q_151_57, q_151_58, q_151_61, q_151_64, q_151_67, q_151_68, q_151_71, q_151_72, hu, hw, pm_some, Option.toList_some, Option.toList_none, List.cons_append, List.nil_append, pm_i0, pm_i1, Nat.reduceAdd, Nat.reduceMul, Int.toNat_natCast, Int.toNat_zero, x1, not_true_eq_false, not_false_eq_true, and_self, true_and, and_true, ↓reduceIte, Int.reduceEq, Int.reduceLT, Int.reduceLE, Int.reduceNeg, Bool.false_eq_true, hp]
            simp (disch := first | assumption | decide +kernel | omega | (split <;> omega)) only [q_151_0, q_151_1, q_151_2, q_151_5, q_151_8, q_151_9, q_151_10, q_151_11, q_151_14, q_151_18, q_151_21, q_151_24, q_151_25, q_151_28, q_151_29, q_151_32, q_151_33, q_151_36, q_151_37, q_151_38, q_151_39, q_151_42, q_151_43, q_151_44, q_151_45, q_151_46, q_151_47, q_151_50, q_151_53, q_151_54, q_151_55, q_151_56, q_151_57, q_151_58, q_151_61, q_151_64, q_151_67, q_151_68, q_151_71, q_151_72, hbe, hbh, c_R_copyLong, pm_some, Option.toList_some, Option.toList_none, List.cons_append, List.nil_append, pm_i0, pm_i1, Nat.reduceAdd, Nat.reduceMul, Int.toNat_natCast, Int.toNat_zero, f1, f2, x2, x1, g, x4, not_true_eq_false, not_false_eq_true, and_self, true_and, and_true, ↓reduceIte, Int.reduceEq, Int.reduceLT, Int.reduceLE, Int.reduceNeg, Bool.false_eq_true, decide_true, Bool.and_self, x21, x22]
          · simp (disch := first | assumption | decide +kernel | omega | (split <;> omega)) only [q_151_0, q_151_1, q_151_2, q_151_5, q_151_8, q_151_9, q_151_10, q_151_11, q_151_14, q_151_18, q_151_21, q_151_24, q_151_25, q_151_28, q_151_29, q_151_32, q_151_33, q_151_36, q_151_38, q_151_39, q_151_42, q_151_43, q_151_44, q_151_45, q_151_46, q_151_47, q_151_50, q_151_53, q_151_54, q_151_55, q_151_56, q_151_57, q_151_58, q_151_61, q_151_64, q_151_67, q_151_68, q_151_71, q_151_72, hu, hw, pm_some, Option.toList_some, Option.toList_none, List.cons_append, List.nil_append, pm_i0, pm_i1, Nat.reduceAdd, Nat.reduceMul, Int.toNat_natCast, Int.toNat_zero, x1, not_true_eq_false, not_false_eq_true, and_self, true_and, and_true, ↓reduceIte, Int.reduceEq, Int.reduceLT, Int.reduceLE, Int.reduceNeg, Bool.false_eq_true, hp]
            simp (disch := first | assumption | decide +kernel | omega | (split <;> omega)) only [q_151_0, q_151_1, q_151_2, q_151_5, q_151_8, q_151_9, q_151_10, q_151_11, q_151_14, q_151_18, q_151_21, q_151_24, q_151_25, q_151_28, q_151_29, q_151_32, q_151_33, q_151_36, q_151_37, q_151_38, q_151_39, q_151_42, q_151_43, q_151_44, q_151_45, q_151_46, q_151_47, q_151_50, q_151_53, q_151_54, q_151_55, q_151_56, q_151_57, q_151_58, q_151_61, q_151_64, q_151_67, q_151_68, q_151_71, q_151_72, hbe, hbh, c_R_copyLong, pm_some, Option.toList_some, Option.toList_none, List.cons_append, List.nil_append, pm_i0, pm_i1, Nat.reduceAdd, Nat.reduceMul, Int.toNat_natCast, Int.toNat_zero, f1, f2, x2, x1, g, x4, not_true_eq_false, not_false_eq_true, and_self, true_and, and_true, ↓reduceIte, Int.reduceEq, Int.reduceLT, Int.reduceLE, Int.reduceNeg, Bool.false_eq_true, decide_true, decide_false, Bool.and_false, Bool.false_and, x21, x22]
        · rw [if_neg g] at hbe hbh x21 x22
          by_cases x4 : Z 191 (31 + 8 * i + l.toNat) < Z 191 (31 + 8 * i + (l + 1).toNat)
          · simp (disch := first | assumption | decide +kernel | omega | (split <;> omega)) only [q_151_0, q_151_1, q_151_2, q_151_5, q_151_8, q_151_9, q_151_10, q_151_11, q_151_14, q_151_18, q_151_21, q_151_24, q_151_25, q_151_28, q_151_29, q_151_32, q_151_33, q_151_36, q_151_38, q_151_39, q_151_42, q_151_43, q_151_44, q_151_45, q_151_46, q_151_47, q_151_50, q_151_53, q_151_54, q_151_55, q_151_56, q_151_57, q_151_58, q_151_61, q_151_64, q_151_67, q_151_68, q_151_71, q_151_72, hu, hw, pm_some, Option.toList_some, Option.toList_none, List.cons_append, List.nil_append, pm_i0, pm_i1, Nat.reduceAdd, Nat.reduceMul, Int.toNat_natCast, Int.toNat_zero, x1, not_true_eq_false, not_false_eq_true, and_self, true_and, and_true, ↓reduceIte, Int.reduceEq, Int.reduceLT, Int.reduceLE, Int.reduceNeg, Bool.false_eq_true, hp]
            simp (disch := first | assumption | decide +kernel | omega | (split <;> omega)) only [q_151_0, q_151_1, q_151_2, q_151_5, q_151_8, q_151_9, q_151_10, q_151_11, q_151_14, q_151_18, q_151_21, q_151_24, q_151_25, q_151_28, q_151_29, q_151_32, q_151_33, q_151_36, q_151_37, q_151_38, q_151_39, q_151_42, q_151_43, q_151_44, q_151_45, q_151_46, q_151_47, q_151_50, q_151_53, q_151_54, q_151_55, q_151_56, q_151_57, q_151_58, q_151_61, q_151_64, q_151_67, q_151_68, q_151_71, q_151_72, hbe, hbh, c_R_copyLong, pm_some, Option.toList_some, Option.toList_none, List.cons_append, List.nil_append, pm_i0, pm_i1, Nat.reduceAdd, Nat.reduceMul, Int.toNat_natCast, Int.toNat_zero, f1, f2, x2, x1, g, x4, not_true_eq_false, not_false_eq_true, and_self, true_and, and_true, ↓reduceIte, Int.reduceEq, Int.reduceLT, Int.reduceLE, Int.reduceNeg, Bool.false_eq_true, decide_true, Bool.and_self, x21, x22]
          · simp (disch := first | assumption | decide +kernel | omega | (split <;> omega)) only [q_151_0, q_151_1, q_151_2, q_151_5, q_151_8, q_151_9, q_151_10, q_151_11, q_151_14, q_151_18, q_151_21, q_151_24, q_151_25, q_151_28, q_151_29, q_151_32, q_151_33, q_151_36, q_151_38, q_151_39, q_151_42, q_151_43, q_151_44, q_151_45, q_151_46, q_151_47, q_151_50, q_151_53, q_151_54, q_151_55, q_151_56, q_151_57, q_151_58, q_151_61, q_151_64, q_151_67, q_151_68, q_151_71, q_151_72, hu, hw, pm_some, Option.toList_some, Option.toList_none, List.cons_append, List.nil_append, pm_i0, pm_i1, Nat.reduceAdd, Nat.reduceMul, Int.toNat_natCast, Int.toNat_zero, x1, not_true_eq_false, not_false_eq_true, and_self, true_and, and_true, ↓reduceIte, Int.reduceEq, Int.reduceLT, Int.reduceLE, Int.reduceNeg, Bool.false_eq_true, hp]
            simp (disch := first | assumption | decide +kernel | omega | (split <;> omega)) only [q_151_0, q_151_1, q_151_2, q_151_5, q_151_8, q_151_9, q_151_10, q_151_11, q_151_14, q_151_18, q_151_21, q_151_24, q_151_25, q_151_28, q_151_29, q_151_32, q_151_33, q_151_36, q_151_37, q_151_38, q_151_39, q_151_42, q_151_43, q_151_44, q_151_45, q_151_46, q_151_47, q_151_50, q_151_53, q_151_54, q_151_55, q_151_56, q_151_57, q_151_58, q_151_61, q_151_64, q_151_67, q_151_68, q_151_71, q_151_72, hbe, hbh, c_R_copyLong, pm_some, Option.toList_some, Option.toList_none, List.cons_append, List.nil_append, pm_i0, pm_i1, Nat.reduceAdd, Nat.reduceMul, Int.toNat_natCast, Int.toNat_zero, f1, f2, x2, x1, g, x4, not_true_eq_false, not_false_eq_true, and_self, true_and, and_true, ↓reduceIte, Int.reduceEq, Int.reduceLT, Int.reduceLE, Int.reduceNeg, Bool.false_eq_true, decide_true, decide_false, Bool.and_false, Bool.false_and, x21, x22]
      · have x3' : (decide (Z 190 29 < 0) || decide (Z 190 29 = (i : Int))) = false := by
          simp only [Bool.or_eq_false_iff, decide_eq_false_iff_not]
          omega
        have y1 : ¬ Z 190 29 < 0 := by omega
        have y2 : ¬ Z 190 29 = (i : Int) := by omega
        rw [x3']
        simp (disch := first | assumption | decide +kernel | omega | (split <;> omega)) only [q_151_0, q_151_1, q_151_2, q_151_5, q_151_8, q_151_9, q_151_10, q_151_11, q_151_14, q_151_17, q_151_18, q_151_21, q_151_24, q_151_25, q_151_28, q_151_29, q_151_32, q_151_33, q_151_36, q_151_37, q_151_38, q_151_39, q_151_42, q_151_43, q_151_44, q_151_45, q_151_46, q_151_47, q_151_50, q_151_53, q_151_54, q_151_55, q_151_56, q_151_57, q_151_58, q_151_61, q_151_64, q_151_67, q_151_68, q_151_71, q_151_72, hu, hw, pm_some, Option.toList_some, Option.toList_none, List.cons_append, List.nil_append, pm_i0, pm_i1, Nat.reduceAdd, Nat.reduceMul, Int.toNat_natCast, Int.toNat_zero, x1, y1, y2, not_true_eq_false, not_false_eq_true, and_self, true_and, and_true, ↓reduceIte, Int.reduceEq, Int.reduceLT, Int.reduceLE, Int.reduceNeg, Bool.false_eq_true, Bool.and_false]
    · have hf : (decide ((if Z 205 i < Z 206 i then Z 205 i else Z 206 i) ≤ l) && decide (l < (if Z 205 i < Z 206 i then Z 206 i else Z 205 i))) = false := by
        simp only [Bool.and_eq_false_iff, decide_eq_false_iff_not]
        omega
      rw [if_neg x2] at hw
      simp (disch := first | assumption | decide +kernel | omega | (split <;> omega)) only [q_151_0, q_151_1, q_151_2, q_151_5, q_151_8, q_151_9, q_151_10, q_151_11, q_151_14, q_151_17, q_151_18, q_151_21, q_151_24, q_151_25, q_151_28, q_151_29, q_151_32, q_151_33, q_151_36, q_151_37, q_151_38, q_151_39, q_151_42, q_151_43, q_151_44, q_151_45, q_151_46, q_151_47, q_151_50, q_151_53, q_151_54, q_151_55, q_151_56, q_151_57, q_151_58, q_151_61, q_151_64, q_151_67, q_151_68, q_151_71, q_151_72, hu, hw, pm_some, Option.toList_some, Option.toList_none, List.cons_append, List.nil_append, pm_i0, pm_i1, Nat.reduceAdd, Nat.reduceMul, Int.toNat_natCast, Int.toNat_zero, x1, not_true_eq_false, not_false_eq_true, and_self, true_and, and_true, ↓reduceIte, Int.reduceEq, Int.reduceLT, Int.reduceLE, Int.reduceNeg, Bool.false_eq_true, decide_true, Bool.true_and, hf, Bool.false_and]
  · simp (disch := first | assumption | decide +kernel | omega | (split <;> omega)) only [q_151_0, q_151_1, q_151_2, q_151_5, q_151_8, q_151_9, q_151_10, q_151_11, q_151_14, q_151_17, q_151_18, q_151_21, q_151_24, q_151_25, q_151_28, q_151_29, q_151_32, q_151_33, q_151_36, q_151_37, q_151_38, q_151_39, q_151_42, q_151_43, q_151_44, q_151_45, q_151_46, q_151_47, q_151_50, q_151_53, q_151_54, q_151_55, q_151_56, q_151_57, q_151_58, q_151_61, q_151_64, q_151_67, q_151_68, q_151_71, q_151_72, hu, pm_some, Option.toList_some, Option.toList_none, List.cons_append, List.nil_append, pm_i0, pm_i1, Nat.reduceAdd, Nat.reduceMul, Int.toNat_natCast, Int.toNat_zero, x1, not_true_eq_false, not_false_eq_true, and_self, true_and, and_true, ↓reduceIte, Int.reduceEq, Int.reduceLT, Int.reduceLE, Int.reduceNeg, Bool.false_eq_true, decide_false, Bool.false_and]
theorem c_R_precedes (a b : Nat) (L : Nat) (Z : Nat → Nat → Int) (W : Nat → Nat) (h : rok Z) (ha : (a : Int) < Z 190 22) (hb : b < a) : pm_D (152, 0, [.ref 190, .int (pm_J (a : Int)), .int (pm_J (b : Int))], [], pm_hp L Z W) = some (some (.int (pm_J (if md_rk Z b < md_rk Z a then 1 else 0))), pm_hp L Z W) := by
  obtain ⟨b1, b2, b3, b4, b5, hm⟩ := h
  obtain ⟨⟨m1, m2, m3, m4⟩, ⟨m5, m6⟩, -⟩ := hm a ha
  obtain ⟨⟨n1, n2, n3, n4⟩, ⟨n5, n6⟩, -⟩ := hm b (by omega)
  have ga := c_R_goesUp (a : Int) L Z W (by omega) (by omega) (by rw [Int.toNat_natCast]; omega) (by rw [Int.toNat_natCast]; omega)
  have gb := c_R_goesUp (b : Int) L Z W (by omega) (by omega) (by rw [Int.toNat_natCast]; omega) (by rw [Int.toNat_natCast]; omega)
  rw [Int.toNat_natCast] at ga gb
  have hab : ¬ (a : Int) < (b : Int) := by omega
  unfold md_rk
  by_cases p : Z 207 a = Z 207 b
  · by_cases ua : Z 205 a < Z 206 a
    · by_cases ub : Z 205 b < Z 206 b
      · have c : ¬ 2 * Z 207 b + 1 < 2 * Z 207 a + 1 := by omega
        simp (disch := first | assumption | decide +kernel | omega | (split <;> omega)) only [q_152_0, q_152_1, q_152_4, q_152_5, q_152_6, q_152_7, q_152_10, q_152_11, q_152_12, q_152_15, q_152_16, q_152_19, q_152_20, q_152_21, q_152_22, q_152_25, q_152_26, q_152_27, q_152_30, q_152_31, q_152_34, q_152_35, q_152_36, q_152_37, q_152_38, q_152_41, q_152_42, q_152_43, q_152_46, q_152_49, q_152_50, q_152_51, q_152_54, q_152_57, q_152_58, q_152_59, q_152_62, q_152_63, q_152_66, q_152_67, ga, gb, pm_some, Option.toList_some, Option.toList_none, List.cons_append, List.nil_append, pm_i0, pm_i1, Nat.reduceAdd, Nat.reduceMul, Int.toNat_natCast, Int.toNat_zero, p, ua, ub, hab, not_true_eq_false, not_false_eq_true, and_self, true_and, and_true, ↓reduceIte, Int.reduceEq, Int.reduceLT, Int.reduceLE, Int.reduceNeg, Bool.false_eq_true, Int.lt_irrefl]
      · have c : 2 * Z 207 b + 0 < 2 * Z 207 b + 1 := by omega
        simp (disch := first | assumption | decide +kernel | omega | (split <;> omega)) only [q_152_0, q_152_1, q_152_4, q_152_5, q_152_6, q_152_7, q_152_10, q_152_11, q_152_12, q_152_15, q_152_16, q_152_19, q_152_20, q_152_21, q_152_22, q_152_25, q_152_26, q_152_27, q_152_30, q_152_31, q_152_34, q_152_35, q_152_36, q_152_37, q_152_38, q_152_41, q_152_42, q_152_43, q_152_46, q_152_49, q_152_50, q_152_51, q_152_54, q_152_57, q_152_58, q_152_59, q_152_62, q_152_63, q_152_66, q_152_67, ga, gb, pm_some, Option.toList_some, Option.toList_none, List.cons_append, List.nil_append, pm_i0, pm_i1, Nat.reduceAdd, Nat.reduceMul, Int.toNat_natCast, Int.toNat_zero, p, ua, ub, c, not_true_eq_false, not_false_eq_true, and_self, true_and, and_true, ↓reduceIte, Int.reduceEq, Int.reduceLT, Int.reduceLE, Int.reduceNeg, Bool.false_eq_true]
    · by_cases ub : Z 205 b < Z 206 b
      · have c : ¬ 2 * Z 207 b + 1 < 2 * Z 207 b + 0 := by omega
        simp (disch := first | assumption | decide +kernel | omega | (split <;> omega)) only [q_152_0, q_152_1, q_152_4, q_152_5, q_152_6, q_152_7, q_152_10, q_152_11, q_152_12, q_152_15, q_152_16, q_152_19, q_152_20, q_152_21, q_152_22, q_152_25, q_152_26, q_152_27, q_152_30, q_152_31, q_152_34, q_152_35, q_152_36, q_152_37, q_152_38, q_152_41, q_152_42, q_152_43, q_152_46, q_152_49, q_152_50, q_152_51, q_152_54, q_152_57, q_152_58, q_152_59, q_152_62, q_152_63, q_152_66, q_152_67, ga, gb, pm_some, Option.toList_some, Option.toList_none, List.cons_append, List.nil_append, pm_i0, pm_i1, Nat.reduceAdd, Nat.reduceMul, Int.toNat_natCast, Int.toNat_zero, p, ua, ub, c, not_true_eq_false, not_false_eq_true, and_self, true_and, and_true, ↓reduceIte, Int.reduceEq, Int.reduceLT, Int.reduceLE, Int.reduceNeg, Bool.false_eq_true]
      · simp (disch := first | assumption | decide +kernel | omega | (split <;> omega)) only [q_152_0, q_152_1, q_152_4, q_152_5, q_152_6, q_152_7, q_152_10, q_152_11, q_152_12, q_152_15, q_152_16, q_152_19, q_152_20, q_152_21, q_152_22, q_152_25, q_152_26, q_152_27, q_152_30, q_152_31, q_152_34, q_152_35, q_152_36, q_152_37, q_152_38, q_152_41, q_152_42, q_152_43, q_152_46, q_152_49, q_152_50, q_152_51, q_152_54, q_152_57, q_152_58, q_152_59, q_152_62, q_152_63, q_152_66, q_152_67, ga, gb, pm_some, Option.toList_some, Option.toList_none, List.cons_append, List.nil_append, pm_i0, pm_i1, Nat.reduceAdd, Nat.reduceMul, Int.toNat_natCast, Int.toNat_zero, p, ua, ub, hab, not_true_eq_false, not_false_eq_true, and_self, true_and, and_true, ↓reduceIte, Int.reduceEq, Int.reduceLT, Int.reduceLE, Int.reduceNeg, Bool.false_eq_true, Int.lt_irrefl]
  · by_cases q : Z 207 b < Z 207 a
    · have c : 2 * Z 207 b + (if Z 205 b < Z 206 b then 1 else 0) < 2 * Z 207 a + (if Z 205 a < Z 206 a then 1 else 0) := by split <;> split <;> omega
      rw [if_pos c]
      simp (disch := first | assumption | decide +kernel | omega | (split <;> omega)) only [q_152_0, q_152_1, q_152_4, q_152_5, q_152_6, q_152_7, q_152_10, q_152_11, q_152_12, q_152_15, q_152_16, q_152_19, q_152_20, q_152_21, q_152_22, q_152_25, q_152_26, q_152_27, q_152_30, q_152_31, q_152_34, q_152_35, q_152_36, q_152_37, q_152_38, q_152_41, q_152_42, q_152_43, q_152_46, q_152_49, q_152_50, q_152_51, q_152_54, q_152_57, q_152_58, q_152_59, q_152_62, q_152_63, q_152_66, q_152_67, pm_some, Option.toList_some, Option.toList_none, List.cons_append, List.nil_append, pm_i0, pm_i1, Nat.reduceAdd, Nat.reduceMul, Int.toNat_natCast, Int.toNat_zero, p, q, not_true_eq_false, not_false_eq_true, and_self, true_and, and_true, ↓reduceIte, Int.reduceEq, Int.reduceLT, Int.reduceLE, Int.reduceNeg, Bool.false_eq_true]
    · have c : ¬ 2 * Z 207 b + (if Z 205 b < Z 206 b then 1 else 0) < 2 * Z 207 a + (if Z 205 a < Z 206 a then 1 else 0) := by split <;> split <;> omega
      rw [if_neg c]
      simp (disch := first | assumption | decide +kernel | omega | (split <;> omega)) only [q_152_0, q_152_1, q_152_4, q_152_5, q_152_6, q_152_7, q_152_10, q_152_11, q_152_12, q_152_15, q_152_16, q_152_19, q_152_20, q_152_21, q_152_22, q_152_25, q_152_26, q_152_27, q_152_30, q_152_31, q_152_34, q_152_35, q_152_36, q_152_37, q_152_38, q_152_41, q_152_42, q_152_43, q_152_46, q_152_49, q_152_50, q_152_51, q_152_54, q_152_57, q_152_58, q_152_59, q_152_62, q_152_63, q_152_66, q_152_67, pm_some, Option.toList_some, Option.toList_none, List.cons_append, List.nil_append, pm_i0, pm_i1, Nat.reduceAdd, Nat.reduceMul, Int.toNat_natCast, Int.toNat_zero, p, q, not_true_eq_false, not_false_eq_true, and_self, true_and, and_true, ↓reduceIte, Int.reduceEq, Int.reduceLT, Int.reduceLE, Int.reduceNeg, Bool.false_eq_true]
theorem rk_lk_r {i : Nat} {Z : Nat → Nat → Int} (t : Int) : rk_lk Z i t = t ∨ rk_lk Z i t = t - 1 ∨ rk_lk Z i t = -6 := by
  unfold rk_lk
  repeat' split
  all_goals first | exact Or.inl rfl | exact Or.inr (Or.inl rfl) | exact Or.inr (Or.inr rfl)

/-- the loop over the messages -/
theorem l_R_take (t : Nat) (L : Nat) (W : Nat → Nat) (Z0 : Nat → Nat → Int) (h0 : rok Z0) (ht : (t : Int) < Z0 190 0) : ∀ (n k : Nat) (Z : Nat → Nat → Int) (v3 v4 v5 v6 : Value), (∀ b, b ≠ 210 → b ≠ 211 → Z b = Z0 b) → (k : Int) + n = Z0 190 22 → Z 210 t = (if (rk_pick Z0 t k).1 < 0 then -1 else (rk_pick Z0 t k).1) → (0 ≤ (rk_pick Z0 t k).1 → Z 211 t = (rk_pick Z0 t k).2) → ∃ Z', pm_D (153, 9, [.ref 190, .int (pm_J (t : Int)), .int (pm_J (k : Int)), v3, v4, v5, v6], [], pm_hp L Z W) = some (none, pm_hp L Z' W) ∧ (∀ b, b ≠ 210 → b ≠ 211 → Z' b = Z b) ∧ (∀ u, u ≠ t → Z' 210 u = Z 210 u ∧ Z' 211 u = Z 211 u) ∧ Z' 210 t = (if (rk_pick Z0 t (Z0 190 22).toNat).1 < 0 then -1 else (rk_pick Z0 t (Z0 190 22).toNat).1) ∧ (0 ≤ (rk_pick Z0 t (Z0 190 22).toNat).1 → Z' 211 t = (rk_pick Z0 t (Z0 190 22).toNat).2) ∧ ((rk_pick Z0 t (Z0 190 22).toNat).1 < 0 → Z' 211 t = Z 211 t) := by
  obtain ⟨b1, b2, b3, b4, b5, hm⟩ := id h0
  intro n
  induction n with
  | zero =>
    intro k Z v3 v4 v5 v6 hf hk h1 h2
    have z190 := hf 190 (by omega) (by omega)
    have hlt : ¬ (k : Int) < Z 190 22 := by rw [z190]; omega
    have hr : pm_r (Z 190 22) := by rw [z190]; omega
    have ek : (Z0 190 22).toNat = k := by omega
    refine ⟨Z, ?_, fun _ _ _ => rfl, fun _ _ => ⟨rfl, rfl⟩, by rw [ek]; exact h1, by rw [ek]; exact h2, fun _ => rfl⟩
    rw [q_153_9]
    simp (disch := first | assumption | decide +kernel | omega | (split <;> omega)) only [q_153_0, q_153_1, q_153_4, q_153_5, q_153_6, q_153_7, q_153_8, q_153_10, q_153_11, q_153_14, q_153_17, q_153_18, q_153_19, q_153_22, q_153_25, q_153_26, q_153_29, q_153_30, q_153_31, q_153_32, q_153_33, q_153_34, q_153_35, q_153_38, q_153_41, q_153_42, q_153_43, q_153_44, q_153_47, q_153_48, q_153_50, q_153_51, q_153_52, q_153_53, q_153_56, q_153_58, q_153_60, q_153_63, q_153_64, q_153_65, q_153_67, q_153_70, q_153_73, q_153_74, q_153_77, q_153_78, q_153_79, q_153_82, q_153_83, q_153_84, q_153_85, q_153_88, q_153_89, q_153_90, q_153_93, q_153_96, q_153_97, q_153_100, q_153_101, q_153_103, q_153_104, q_153_107, q_153_108, q_153_110, q_153_113, q_153_114, q_153_117, q_153_118, q_153_121, q_153_122, q_153_123, q_153_124, q_153_125, q_153_128, q_153_129, q_153_131, q_153_134, q_153_136, q_153_139, q_153_140, q_153_143, q_153_145, q_153_148, q_153_149, q_153_152, q_153_153, q_153_154, q_153_155, q_153_158, q_153_161, pm_some, Option.toList_some, Option.toList_none, List.cons_append, List.nil_append, pm_i0, pm_i1, Nat.reduceAdd, Nat.reduceMul, Int.toNat_natCast, Int.toNat_zero, not_true_eq_false, not_false_eq_true, and_self, true_and, and_true, ↓reduceIte, Int.reduceEq, Int.reduceLT, Int.reduceLE, Int.reduceNeg, Bool.false_eq_true, hlt]
  | succ n ih =>
    intro k Z v3 v4 v5 v6 hf hk h1 h2
    have z190 := hf 190 (by omega) (by omega)
    have z5 := hf 205 (by omega) (by omega)
    have z6 := hf 206 (by omega) (by omega)
    have z7 := hf 207 (by omega) (by omega)
    have z191 := hf 191 (by omega) (by omega)
    have hlt : (k : Int) < Z 190 22 := by rw [z190]; omega
    have hr : pm_r (Z 190 22) := by rw [z190]; omega
    have hk' : (k : Int) < Z0 190 22 := by omega
    have hZ : rok Z := rok_congr h0 z190 z191 z5 z6 z7
    obtain ⟨⟨m1, m2, m3, m4⟩, -⟩ := hm k hk'
    have k0 : 0 ≤ (k : Int) := by omega
    have k10 : (k : Int) < 10 := by omega
    have t0 : 0 ≤ (t : Int) := by omega
    have t8 : (t : Int) < 8 := by omega
    have hup := c_R_goesUp (k : Int) L Z W k0 k10 (by rw [Int.toNat_natCast, z5]; omega) (by rw [Int.toNat_natCast, z6]; omega)
    rw [Int.toNat_natCast, z5, z6] at hup
    have hcan : ∀ l, pm_r l → pm_D (151, 0, [.ref 190, .int (pm_J (k : Int)), .int (pm_J l), .null], [], pm_hp L Z W) = some (some (.int (pm_J (if rk_can Z0 k l = true then 1 else 0))), pm_hp L Z W) := fun l hl => by
      have := c_R_canUse k l L Z W hZ hlt hl
      have e : rk_can Z k l = rk_can Z0 k l := by
        unfold rk_can md_can
        rw [z190, z191, z5, z6]
      rw [e] at this
      exact this
    have hcn := hcan (t : Int) (by omega)
    have hcb := hcan ((t : Int) - 1) (by omega)
    have hpre : ∀ p : Nat, p < k → pm_D (152, 0, [.ref 190, .int (pm_J (k : Int)), .int (pm_J (p : Int))], [], pm_hp L Z W) = some (some (.int (pm_J (if md_rk Z0 p < md_rk Z0 k then 1 else 0))), pm_hp L Z W) := fun p hp => by
      have := c_R_precedes k p L Z W hZ hlt hp
      have e : ∀ j, md_rk Z j = md_rk Z0 j := fun j => by
        unfold md_rk
        rw [z5, z6, z7]
      rw [e, e] at this
      exact this
    have key : ∀ (X Y : Int) (w3 w4 w5 w6 : Value), X = (if (rk_pick Z0 t (k + 1)).1 < 0 then -1 else (rk_pick Z0 t (k + 1)).1) → (0 ≤ (rk_pick Z0 t (k + 1)).1 → Y = (rk_pick Z0 t (k + 1)).2) → ((rk_pick Z0 t (k + 1)).1 < 0 → Y = Z 211 t) → pm_D (153, 9, [.ref 190, .int (pm_J (t : Int)), .int (pm_J (k : Int)), v3, v4, v5, v6], [], pm_hp L Z W) = pm_D (153, 9, [.ref 190, .int (pm_J (t : Int)), .int (pm_J ((k : Int) + 1)), w3, w4, w5, w6], [], pm_hp L (pm_up (pm_up Z 210 t X) 211 t Y) W) → ∃ Z', pm_D (153, 9, [.ref 190, .int (pm_J (t : Int)), .int (pm_J (k : Int)), v3, v4, v5, v6], [], pm_hp L Z W) = some (none, pm_hp L Z' W) ∧ (∀ b, b ≠ 210 → b ≠ 211 → Z' b = Z b) ∧ (∀ u, u ≠ t → Z' 210 u = Z 210 u ∧ Z' 211 u = Z 211 u) ∧ Z' 210 t = (if (rk_pick Z0 t (Z0 190 22).toNat).1 < 0 then -1 else (rk_pick Z0 t (Z0 190 22).toNat).1) ∧ (0 ≤ (rk_pick Z0 t (Z0 190 22).toNat).1 → Z' 211 t = (rk_pick Z0 t (Z0 190 22).toNat).2) ∧ ((rk_pick Z0 t (Z0 190 22).toNat).1 < 0 → Z' 211 t = Z 211 t) := by
      intro X Y w3 w4 w5 w6 hX hY hY' he
      obtain ⟨Z', e, f, u, g1, g2, g3⟩ := ih (k + 1) (pm_up (pm_up Z 210 t X) 211 t Y) w3 w4 w5 w6 (fun b q1 q2 => by rw [pm_up_row q2, pm_up_row q1, hf b q1 q2]) (by omega) (by rw [pm_up_ne (by omega), pm_up_same]; exact hX) (fun q => by rw [pm_up_same]; exact hY q)
      rw [show (((k + 1 : Nat)) : Int) = (k : Int) + 1 by omega] at e
      refine ⟨Z', by rw [he]; exact e, fun b q1 q2 => by rw [f b q1 q2, pm_up_row q2, pm_up_row q1], fun v hv => ?_, g1, g2, fun q => ?_⟩
      rotate_left
      · rw [g3 q, pm_up_same]
        refine hY' (rk_pick_neg Z0 t (k + 1) n ?_)
        rw [show k + 1 + n = (Z0 190 22).toNat by omega]
        exact q
      rw [(u v hv).1, (u v hv).2, pm_up_ne (by omega), pm_up_ne (by omega), pm_up_ne (by omega), pm_up_ne (by omega)]
      exact ⟨rfl, rfl⟩
    have hpl := rk_pick_lt Z0 t k
    by_cases hu : Z0 205 k < Z0 206 k
    · have el : rk_lk Z0 k t = if rk_can Z0 k ((t : Int)) = true then (t : Int) else if rk_can Z0 k ((t : Int) - 1) = true then (t : Int) - 1 else -6 := by
        unfold rk_lk
        simp only [if_pos hu]
      by_cases y1 : rk_can Z0 k ((t : Int)) = true
      · rw [if_pos y1] at el
        have hne : rk_lk Z0 k t ≠ -6 := by rw [el]; omega
        rcases hpl with hp | ⟨hp0, hp1⟩
        · have hp0 : (rk_pick Z0 t k).1 < 0 := by rw [hp]; decide
          have ht1 : Z 210 t = -1 := by rw [h1, if_pos hp0]
          have ep : rk_pick Z0 t (k + 1) = ((k : Int), (t : Int)) := by rw [rk_pick_succ, if_pos ⟨hne, Or.inl hp0⟩, el]
          refine key ((k : Int)) ((t : Int)) (.int (pm_J ((t : Int)))) (.int (pm_J ((t : Int) - 1))) (.int (pm_J 1)) (.int (pm_J 1)) ?_ ?_ ?_ ?_
          · rw [ep]; show _ = if (k : Int) < 0 then _ else _; rw [if_neg (by omega)]
          · intro _; rw [ep]
          · rw [ep]; intro q; exact absurd q (by show ¬ (k : Int) < 0; omega)
          · rw [q_153_9]
            simp (disch := first | assumption | decide +kernel | omega | (split <;> omega)) only [q_153_0, q_153_1, q_153_4, q_153_5, q_153_6, q_153_7, q_153_8, q_153_10, q_153_11, q_153_14, q_153_17, q_153_18, q_153_19, q_153_22, q_153_25, q_153_26, q_153_29, q_153_30, q_153_31, q_153_32, q_153_33, q_153_34, q_153_35, q_153_38, q_153_41, q_153_42, q_153_43, q_153_44, q_153_47, q_153_48, q_153_50, q_153_51, q_153_52, q_153_53, q_153_56, q_153_58, q_153_60, q_153_63, q_153_64, q_153_65, q_153_67, q_153_70, q_153_73, q_153_74, q_153_77, q_153_78, q_153_79, q_153_82, q_153_83, q_153_84, q_153_85, q_153_88, q_153_89, q_153_90, q_153_93, q_153_96, q_153_97, q_153_100, q_153_101, q_153_103, q_153_104, q_153_107, q_153_108, q_153_110, q_153_113, q_153_114, q_153_117, q_153_118, q_153_121, q_153_122, q_153_123, q_153_124, q_153_125, q_153_128, q_153_129, q_153_131, q_153_134, q_153_136, q_153_139, q_153_140, q_153_143, q_153_145, q_153_148, q_153_149, q_153_152, q_153_153, q_153_154, q_153_155, q_153_158, q_153_161, hup, hcn, hcb, pm_some, Option.toList_some, Option.toList_none, List.cons_append, List.nil_append, pm_i0, pm_i1, Nat.reduceAdd, Nat.reduceMul, Int.toNat_natCast, Int.toNat_zero, not_true_eq_false, not_false_eq_true, and_self, true_and, and_true, ↓reduceIte, Int.reduceEq, Int.reduceLT, Int.reduceLE, Int.reduceNeg, Bool.false_eq_true, hlt, pm_up_ne, hu, y1, ht1]
        · obtain ⟨p, hp⟩ : ∃ p : Nat, (rk_pick Z0 t k).1 = (p : Int) := ⟨(rk_pick Z0 t k).1.toNat, by omega⟩
          have ht1 : Z 210 t = (p : Int) := by rw [h1, if_neg (by omega), hp]
          have htn : ¬ (p : Int) < 0 := by omega
          have hpp := hpre p (by omega)
          have hpr : pm_r (p : Int) := by omega
          by_cases y3 : md_rk Z0 p < md_rk Z0 k
          · have ep : rk_pick Z0 t (k + 1) = ((k : Int), (t : Int)) := by rw [rk_pick_succ, if_pos ⟨hne, Or.inr (by rw [hp, Int.toNat_natCast]; exact y3)⟩, el]
            refine key ((k : Int)) ((t : Int)) (.int (pm_J ((t : Int)))) (.int (pm_J ((t : Int) - 1))) (.int (pm_J 1)) (.int (pm_J 1)) ?_ ?_ ?_ ?_
            · rw [ep]; show _ = if (k : Int) < 0 then _ else _; rw [if_neg (by omega)]
            · intro _; rw [ep]
            · rw [ep]; intro q; exact absurd q (by show ¬ (k : Int) < 0; omega)
            · rw [q_153_9]
              simp (disch := first | assumption | decide +kernel | omega | (split <;> omega)) only [q_153_0, q_153_1, q_153_4, q_153_5, q_153_6, q_153_7, q_153_8, q_153_10, q_153_11, q_153_14, q_153_17, q_153_18, q_153_19, q_153_22, q_153_25, q_153_26, q_153_29, q_153_30, q_153_31, q_153_32, q_153_33, q_153_34, q_153_35, q_153_38, q_153_41, q_153_42, q_153_43, q_153_44, q_153_47, q_153_48, q_153_50, q_153_51, q_153_52, q_153_53, q_153_56, q_153_58, q_153_60, q_153_63, q_153_64, q_153_65, q_153_67, q_153_70, q_153_73, q_153_74, q_153_77, q_153_78, q_153_79, q_153_82, q_153_83, q_153_84, q_153_85, q_153_88, q_153_89, q_153_90, q_153_93, q_153_96, q_153_97, q_153_100, q_153_101, q_153_103, q_153_104, q_153_107, q_153_108, q_153_110, q_153_113, q_153_114, q_153_117, q_153_118, q_153_121, q_153_122, q_153_123, q_153_124, q_153_125, q_153_128, q_153_129, q_153_131, q_153_134, q_153_136, q_153_139, q_153_140, q_153_143, q_153_145, q_153_148, q_153_149, q_153_152, q_153_153, q_153_154, q_153_155, q_153_158, q_153_161, hup, hcn, hcb, pm_some, Option.toList_some, Option.toList_none, List.cons_append, List.nil_append, pm_i0, pm_i1, Nat.reduceAdd, Nat.reduceMul, Int.toNat_natCast, Int.toNat_zero, not_true_eq_false, not_false_eq_true, and_self, true_and, and_true, ↓reduceIte, Int.reduceEq, Int.reduceLT, Int.reduceLE, Int.reduceNeg, Bool.false_eq_true, hlt, pm_up_ne, hu, y1, ht1, htn, hpp, y3]
          · have hn : ¬ ((rk_pick Z0 t k).1 < 0 ∨ md_rk Z0 (rk_pick Z0 t k).1.toNat < md_rk Z0 k) := by rw [hp, Int.toNat_natCast]; omega
            have ep : rk_pick Z0 t (k + 1) = rk_pick Z0 t k := by rw [rk_pick_succ, if_neg (fun q => hn q.2)]
            refine key (p : Int) (Z 211 t) (.int (pm_J ((t : Int)))) (.int (pm_J ((t : Int) - 1))) (.int (pm_J 1)) (.int (pm_J 0)) ?_ ?_ ?_ ?_
            · rw [ep]; rw [← ht1]; exact h1
            · rw [ep]; exact h2
            · intro _; rfl
            · rw [q_153_9]
              simp (disch := first | assumption | decide +kernel | omega | (split <;> omega)) only [q_153_0, q_153_1, q_153_4, q_153_5, q_153_6, q_153_7, q_153_8, q_153_10, q_153_11, q_153_14, q_153_17, q_153_18, q_153_19, q_153_22, q_153_25, q_153_26, q_153_29, q_153_30, q_153_31, q_153_32, q_153_33, q_153_34, q_153_35, q_153_38, q_153_41, q_153_42, q_153_43, q_153_44, q_153_47, q_153_48, q_153_50, q_153_51, q_153_52, q_153_53, q_153_56, q_153_58, q_153_60, q_153_63, q_153_64, q_153_65, q_153_67, q_153_70, q_153_73, q_153_74, q_153_77, q_153_78, q_153_79, q_153_82, q_153_83, q_153_84, q_153_85, q_153_88, q_153_89, q_153_90, q_153_93, q_153_96, q_153_97, q_153_100, q_153_101, q_153_103, q_153_104, q_153_107, q_153_108, q_153_110, q_153_113, q_153_114, q_153_117, q_153_118, q_153_121, q_153_122, q_153_123, q_153_124, q_153_125, q_153_128, q_153_129, q_153_131, q_153_134, q_153_136, q_153_139, q_153_140, q_153_143, q_153_145, q_153_148, q_153_149, q_153_152, q_153_153, q_153_154, q_153_155, q_153_158, q_153_161, hup, hcn, hcb, pm_some, Option.toList_some, Option.toList_none, List.cons_append, List.nil_append, pm_i0, pm_i1, Nat.reduceAdd, Nat.reduceMul, Int.toNat_natCast, Int.toNat_zero, not_true_eq_false, not_false_eq_true, and_self, true_and, and_true, ↓reduceIte, Int.reduceEq, Int.reduceLT, Int.reduceLE, Int.reduceNeg, Bool.false_eq_true, hlt, pm_up_ne, hu, y1, ht1, htn, hpp, y3]
      · rw [if_neg y1] at el
        by_cases y2 : rk_can Z0 k ((t : Int) - 1) = true
        · rw [if_pos y2] at el
          have hne : rk_lk Z0 k t ≠ -6 := by rw [el]; omega
          rcases hpl with hp | ⟨hp0, hp1⟩
          · have hp0 : (rk_pick Z0 t k).1 < 0 := by rw [hp]; decide
            have ht1 : Z 210 t = -1 := by rw [h1, if_pos hp0]
            have ep : rk_pick Z0 t (k + 1) = ((k : Int), (t : Int) - 1) := by rw [rk_pick_succ, if_pos ⟨hne, Or.inl hp0⟩, el]
            refine key ((k : Int)) ((t : Int) - 1) (.int (pm_J ((t : Int)))) (.int (pm_J ((t : Int) - 1))) (.int (pm_J 0)) (.int (pm_J 1)) ?_ ?_ ?_ ?_
            · rw [ep]; show _ = if (k : Int) < 0 then _ else _; rw [if_neg (by omega)]
            · intro _; rw [ep]
            · rw [ep]; intro q; exact absurd q (by show ¬ (k : Int) < 0; omega)
            · rw [q_153_9]
              simp (disch := first | assumption | decide +kernel | omega | (split <;> omega)) only [q_153_0, q_153_1, q_153_4, q_153_5, q_153_6, q_153_7, q_153_8, q_153_10, q_153_11, q_153_14, q_153_17, q_153_18, q_153_19, q_153_22, q_153_25, q_153_26, q_153_29, q_153_30, q_153_31, q_153_32, q_153_33, q_153_34, q_153_35, q_153_38, q_153_41, q_153_42, q_153_43, q_153_44, q_153_47, q_153_48, q_153_50, q_153_51, q_153_52, q_153_53, q_153_56, q_153_58, q_153_60, q_153_63, q_153_64, q_153_65, q_153_67, q_153_70, q_153_73, q_153_74, q_153_77, q_153_78, q_153_79, q_153_82, q_153_83, q_153_84, q_153_85, q_153_88, q_153_89, q_153_90, q_153_93, q_153_96, q_153_97, q_153_100, q_153_101, q_153_103, q_153_104, q_153_107, q_153_108, q_153_110, q_153_113, q_153_114, q_153_117, q_153_118, q_153_121, q_153_122, q_153_123, q_153_124, q_153_125, q_153_128, q_153_129, q_153_131, q_153_134, q_153_136, q_153_139, q_153_140, q_153_143, q_153_145, q_153_148, q_153_149, q_153_152, q_153_153, q_153_154, q_153_155, q_153_158, q_153_161, hup, hcn, hcb, pm_some, Option.toList_some, Option.toList_none, List.cons_append, List.nil_append, pm_i0, pm_i1, Nat.reduceAdd, Nat.reduceMul, Int.toNat_natCast, Int.toNat_zero, not_true_eq_false, not_false_eq_true, and_self, true_and, and_true, ↓reduceIte, Int.reduceEq, Int.reduceLT, Int.reduceLE, Int.reduceNeg, Bool.false_eq_true, hlt, pm_up_ne, hu, y1, y2, ht1]
          · obtain ⟨p, hp⟩ : ∃ p : Nat, (rk_pick Z0 t k).1 = (p : Int) := ⟨(rk_pick Z0 t k).1.toNat, by omega⟩
            have ht1 : Z 210 t = (p : Int) := by rw [h1, if_neg (by omega), hp]
            have htn : ¬ (p : Int) < 0 := by omega
            have hpp := hpre p (by omega)
            have hpr : pm_r (p : Int) := by omega
            by_cases y3 : md_rk Z0 p < md_rk Z0 k
            · have ep : rk_pick Z0 t (k + 1) = ((k : Int), (t : Int) - 1) := by rw [rk_pick_succ, if_pos ⟨hne, Or.inr (by rw [hp, Int.toNat_natCast]; exact y3)⟩, el]
              refine key ((k : Int)) ((t : Int) - 1) (.int (pm_J ((t : Int)))) (.int (pm_J ((t : Int) - 1))) (.int (pm_J 0)) (.int (pm_J 1)) ?_ ?_ ?_ ?_
              · rw [ep]; show _ = if (k : Int) < 0 then _ else _; rw [if_neg (by omega)]
              · intro _; rw [ep]
              · rw [ep]; intro q; exact absurd q (by show ¬ (k : Int) < 0; omega)
              · rw [q_153_9]
                simp (disch := first | assumption | decide +kernel | omega | (split <;> omega)) only [q_153_0, q_153_1, q_153_4, q_153_5, q_153_6, q_153_7, q_153_8, q_153_10, q_153_11, q_153_14, q_153_17, q_153_18, q_153_19, q_153_22, q_153_25, q_153_26, q_153_29, q_153_30, q_153_31, q_153_32, q_153_33, q_153_34, q_153_35, q_153_38, q_153_41, q_153_42, q_153_43, q_153_44, q_153_47, q_153_48, q_153_50, q_153_51, q_153_52, q_153_53, q_153_56, q_153_58, q_153_60, q_153_63, q_153_64, q_153_65, q_153_67, q_153_70, q_153_73, q_153_74, q_153_77, q_153_78, q_153_79, q_153_82, q_153_83, q_153_84, q_153_85, q_153_88, q_153_89, q_153_90, q_153_93, q_153_96, q_153_97, q_153_100, q_153_101, q_153_103, q_153_104, q_153_107, q_153_108, q_153_110, q_153_113, q_153_114, q_153_117, q_153_118, q_153_121, q_153_122, q_153_123, q_153_124, q_153_125, q_153_128, q_153_129, q_153_131, q_153_134, q_153_136, q_153_139, q_153_140, q_153_143, q_153_145, q_153_148, q_153_149, q_153_152, q_153_153, q_153_154, q_153_155, q_153_158, q_153_161, hup, hcn, hcb, pm_some, Option.toList_some, Option.toList_none, List.cons_append, List.nil_append, pm_i0, pm_i1, Nat.reduceAdd, Nat.reduceMul, Int.toNat_natCast, Int.toNat_zero, not_true_eq_false, not_false_eq_true, and_self, true_and, and_true, ↓reduceIte, Int.reduceEq, Int.reduceLT, Int.reduceLE, Int.reduceNeg, Bool.false_eq_true, hlt, pm_up_ne, hu, y1, y2, ht1, htn, hpp, y3]
            · have hn : ¬ ((rk_pick Z0 t k).1 < 0 ∨ md_rk Z0 (rk_pick Z0 t k).1.toNat < md_rk Z0 k) := by rw [hp, Int.toNat_natCast]; omega
              have ep : rk_pick Z0 t (k + 1) = rk_pick Z0 t k := by rw [rk_pick_succ, if_neg (fun q => hn q.2)]
              refine key (p : Int) (Z 211 t) (.int (pm_J ((t : Int)))) (.int (pm_J ((t : Int) - 1))) (.int (pm_J 0)) (.int (pm_J 0)) ?_ ?_ ?_ ?_
              · rw [ep]; rw [← ht1]; exact h1
              · rw [ep]; exact h2
              · intro _; rfl
              · rw [q_153_9]
                simp (disch := first | assumption | decide +kernel | omega | (split <;> omega)) only [q_153_0, q_153_1, q_153_4, q_153_5, q_153_6, q_153_7, q_153_8, q_153_10, q_153_11, q_153_14, q_153_17, q_153_18, q_153_19, q_153_22, q_153_25, q_153_26, q_153_29, q_153_30, q_153_31, q_153_32, q_153_33, q_153_34, q_153_35, q_153_38, q_153_41, q_153_42, q_153_43, q_153_44, q_153_47, q_153_48, q_153_50, q_153_51, q_153_52, q_153_53, q_153_56, q_153_58, q_153_60, q_153_63, q_153_64, q_153_65, q_153_67, q_153_70, q_153_73, q_153_74, q_153_77, q_153_78, q_153_79, q_153_82, q_153_83, q_153_84, q_153_85, q_153_88, q_153_89, q_153_90, q_153_93, q_153_96, q_153_97, q_153_100, q_153_101, q_153_103, q_153_104, q_153_107, q_153_108, q_153_110, q_153_113, q_153_114, q_153_117, q_153_118, q_153_121, q_153_122, q_153_123, q_153_124, q_153_125, q_153_128, q_153_129, q_153_131, q_153_134, q_153_136, q_153_139, q_153_140, q_153_143, q_153_145, q_153_148, q_153_149, q_153_152, q_153_153, q_153_154, q_153_155, q_153_158, q_153_161, hup, hcn, hcb, pm_some, Option.toList_some, Option.toList_none, List.cons_append, List.nil_append, pm_i0, pm_i1, Nat.reduceAdd, Nat.reduceMul, Int.toNat_natCast, Int.toNat_zero, not_true_eq_false, not_false_eq_true, and_self, true_and, and_true, ↓reduceIte, Int.reduceEq, Int.reduceLT, Int.reduceLE, Int.reduceNeg, Bool.false_eq_true, hlt, pm_up_ne, hu, y1, y2, ht1, htn, hpp, y3]
        · rw [if_neg y2] at el
          have ep : rk_pick Z0 t (k + 1) = rk_pick Z0 t k := by rw [rk_pick_succ, if_neg (fun q => q.1 el)]
          refine key (Z 210 t) (Z 211 t) (.int (pm_J ((t : Int)))) (.int (pm_J ((t : Int) - 1))) (.int (pm_J 0)) (.int (pm_J 0)) ?_ ?_ ?_ ?_
          · rw [ep]; exact h1
          · rw [ep]; exact h2
          · intro _; rfl
          · rw [q_153_9]
            simp (disch := first | assumption | decide +kernel | omega | (split <;> omega)) only [q_153_0, q_153_1, q_153_4, q_153_5, q_153_6, q_153_7, q_153_8, q_153_10, q_153_11, q_153_14, q_153_17, q_153_18, q_153_19, q_153_22, q_153_25, q_153_26, q_153_29, q_153_30, q_153_31, q_153_32, q_153_33, q_153_34, q_153_35, q_153_38, q_153_41, q_153_42, q_153_43, q_153_44, q_153_47, q_153_48, q_153_50, q_153_51, q_153_52, q_153_53, q_153_56, q_153_58, q_153_60, q_153_63, q_153_64, q_153_65, q_153_67, q_153_70, q_153_73, q_153_74, q_153_77, q_153_78, q_153_79, q_153_82, q_153_83, q_153_84, q_153_85, q_153_88, q_153_89, q_153_90, q_153_93, q_153_96, q_153_97, q_153_100, q_153_101, q_153_103, q_153_104, q_153_107, q_153_108, q_153_110, q_153_113, q_153_114, q_153_117, q_153_118, q_153_121, q_153_122, q_153_123, q_153_124, q_153_125, q_153_128, q_153_129, q_153_131, q_153_134, q_153_136, q_153_139, q_153_140, q_153_143, q_153_145, q_153_148, q_153_149, q_153_152, q_153_153, q_153_154, q_153_155, q_153_158, q_153_161, hup, hcn, hcb, pm_some, Option.toList_some, Option.toList_none, List.cons_append, List.nil_append, pm_i0, pm_i1, Nat.reduceAdd, Nat.reduceMul, Int.toNat_natCast, Int.toNat_zero, not_true_eq_false, not_false_eq_true, and_self, true_and, and_true, ↓reduceIte, Int.reduceEq, Int.reduceLT, Int.reduceLE, Int.reduceNeg, Bool.false_eq_true, hlt, pm_up_ne, hu, y1, y2]
    · have el : rk_lk Z0 k t = if rk_can Z0 k ((t : Int) - 1) = true then (t : Int) - 1 else if rk_can Z0 k ((t : Int)) = true then (t : Int) else -6 := by
        unfold rk_lk
        simp only [if_neg hu]
      by_cases y1 : rk_can Z0 k ((t : Int) - 1) = true
      · rw [if_pos y1] at el
        have hne : rk_lk Z0 k t ≠ -6 := by rw [el]; omega
        rcases hpl with hp | ⟨hp0, hp1⟩
        · have hp0 : (rk_pick Z0 t k).1 < 0 := by rw [hp]; decide
          have ht1 : Z 210 t = -1 := by rw [h1, if_pos hp0]
          have ep : rk_pick Z0 t (k + 1) = ((k : Int), (t : Int) - 1) := by rw [rk_pick_succ, if_pos ⟨hne, Or.inl hp0⟩, el]
          refine key ((k : Int)) ((t : Int) - 1) (.int (pm_J ((t : Int) - 1))) (.int (pm_J ((t : Int)))) (.int (pm_J 1)) (.int (pm_J 1)) ?_ ?_ ?_ ?_
          · rw [ep]; show _ = if (k : Int) < 0 then _ else _; rw [if_neg (by omega)]
          · intro _; rw [ep]
          · rw [ep]; intro q; exact absurd q (by show ¬ (k : Int) < 0; omega)
          · rw [q_153_9]
            simp (disch := first | assumption | decide +kernel | omega | (split <;> omega)) only [q_153_0, q_153_1, q_153_4, q_153_5, q_153_6, q_153_7, q_153_8, q_153_10, q_153_11, q_153_14, q_153_17, q_153_18, q_153_19, q_153_22, q_153_25, q_153_26, q_153_29, q_153_30, q_153_31, q_153_32, q_153_33, q_153_34, q_153_35, q_153_38, q_153_41, q_153_42, q_153_43, q_153_44, q_153_47, q_153_48, q_153_50, q_153_51, q_153_52, q_153_53, q_153_56, q_153_58, q_153_60, q_153_63, q_153_64, q_153_65, q_153_67, q_153_70, q_153_73, q_153_74, q_153_77, q_153_78, q_153_79, q_153_82, q_153_83, q_153_84, q_153_85, q_153_88, q_153_89, q_153_90, q_153_93, q_153_96, q_153_97, q_153_100, q_153_101, q_153_103, q_153_104, q_153_107, q_153_108, q_153_110, q_153_113, q_153_114, q_153_117, q_153_118, q_153_121, q_153_122, q_153_123, q_153_124, q_153_125, q_153_128, q_153_129, q_153_131, q_153_134, q_153_136, q_153_139, q_153_140, q_153_143, q_153_145, q_153_148, q_153_149, q_153_152, q_153_153, q_153_154, q_153_155, q_153_158, q_153_161, hup, hcn, hcb, pm_some, Option.toList_some, Option.toList_none, List.cons_append, List.nil_append, pm_i0, pm_i1, Nat.reduceAdd, Nat.reduceMul, Int.toNat_natCast, Int.toNat_zero, not_true_eq_false, not_false_eq_true, and_self, true_and, and_true, ↓reduceIte, Int.reduceEq, Int.reduceLT, Int.reduceLE, Int.reduceNeg, Bool.false_eq_true, hlt, pm_up_ne, hu, y1, ht1]
        · obtain ⟨p, hp⟩ : ∃ p : Nat, (rk_pick Z0 t k).1 = (p : Int) := ⟨(rk_pick Z0 t k).1.toNat, by omega⟩
          have ht1 : Z 210 t = (p : Int) := by rw [h1, if_neg (by omega), hp]
          have htn : ¬ (p : Int) < 0 := by omega
          have hpp := hpre p (by omega)
          have hpr : pm_r (p : Int) := by omega
          by_cases y3 : md_rk Z0 p < md_rk Z0 k
          · have ep : rk_pick Z0 t (k + 1) = ((k : Int), (t : Int) - 1) := by rw [rk_pick_succ, if_pos ⟨hne, Or.inr (by rw [hp, Int.toNat_natCast]; exact y3)⟩, el]
            refine key ((k : Int)) ((t : Int) - 1) (.int (pm_J ((t : Int) - 1))) (.int (pm_J ((t : Int)))) (.int (pm_J 1)) (.int (pm_J 1)) ?_ ?_ ?_ ?_
            · rw [ep]; show _ = if (k : Int) < 0 then _ else _; rw [if_neg (by omega)]
            · intro _; rw [ep]
            · rw [ep]; intro q; exact absurd q (by show ¬ (k : Int) < 0; omega)
            · rw [q_153_9]
              simp (disch := first | assumption | decide +kernel | omega | (split <;> omega)) only [q_153_0, q_153_1, q_153_4, q_153_5, q_153_6, q_153_7, q_153_8, q_153_10, q_153_11, q_153_14, q_153_17, q_153_18, q_153_19, q_153_22, q_153_25, q_153_26, q_153_29, q_153_30, q_153_31, q_153_32, q_153_33, q_153_34, q_153_35, q_153_38, q_153_41, q_153_42, q_153_43, q_153_44, q_153_47, q_153_48, q_153_50, q_153_51, q_153_52, q_153_53, q_153_56, q_153_58, q_153_60, q_153_63, q_153_64, q_153_65, q_153_67, q_153_70, q_153_73, q_153_74, q_153_77, q_153_78, q_153_79, q_153_82, q_153_83, q_153_84, q_153_85, q_153_88, q_153_89, q_153_90, q_153_93, q_153_96, q_153_97, q_153_100, q_153_101, q_153_103, q_153_104, q_153_107, q_153_108, q_153_110, q_153_113, q_153_114, q_153_117, q_153_118, q_153_121, q_153_122, q_153_123, q_153_124, q_153_125, q_153_128, q_153_129, q_153_131, q_153_134, q_153_136, q_153_139, q_153_140, q_153_143, q_153_145, q_153_148, q_153_149, q_153_152, q_153_153, q_153_154, q_153_155, q_153_158, q_153_161, hup, hcn, hcb, pm_some, Option.toList_some, Option.toList_none, List.cons_append, List.nil_append, pm_i0, pm_i1, Nat.reduceAdd, Nat.reduceMul, Int.toNat_natCast, Int.toNat_zero, not_true_eq_false, not_false_eq_true, and_self, true_and, and_true, ↓reduceIte, Int.reduceEq, Int.reduceLT, Int.reduceLE, Int.reduceNeg, Bool.false_eq_true, hlt, pm_up_ne, hu, y1, ht1, htn, hpp, y3]
          · have hn : ¬ ((rk_pick Z0 t k).1 < 0 ∨ md_rk Z0 (rk_pick Z0 t k).1.toNat < md_rk Z0 k) := by rw [hp, Int.toNat_natCast]; omega
            have ep : rk_pick Z0 t (k + 1) = rk_pick Z0 t k := by rw [rk_pick_succ, if_neg (fun q => hn q.2)]
            refine key (p : Int) (Z 211 t) (.int (pm_J ((t : Int) - 1))) (.int (pm_J ((t : Int)))) (.int (pm_J 1)) (.int (pm_J 0)) ?_ ?_ ?_ ?_
            · rw [ep]; rw [← ht1]; exact h1
            · rw [ep]; exact h2
            · intro _; rfl
            · rw [q_153_9]
              simp (disch := first | assumption | decide +kernel | omega | (split <;> omega)) only [q_153_0, q_153_1, q_153_4, q_153_5, q_153_6, q_153_7, q_153_8, q_153_10, q_153_11, q_153_14, q_153_17, q_153_18, q_153_19, q_153_22, q_153_25, q_153_26, q_153_29, q_153_30, q_153_31, q_153_32, q_153_33, q_153_34, q_153_35, q_153_38, q_153_41, q_153_42, q_153_43, q_153_44, q_153_47, q_153_48, q_153_50, q_153_51, q_153_52, q_153_53, q_153_56, q_153_58, q_153_60, q_153_63, q_153_64, q_153_65, q_153_67, q_153_70, q_153_73, q_153_74, q_153_77, q_153_78, q_153_79, q_153_82, q_153_83, q_153_84, q_153_85, q_153_88, q_153_89, q_153_90, q_153_93, q_153_96, q_153_97, q_153_100, q_153_101, q_153_103, q_153_104, q_153_107, q_153_108, q_153_110, q_153_113, q_153_114, q_153_117, q_153_118, q_153_121, q_153_122, q_153_123, q_153_124, q_153_125, q_153_128, q_153_129, q_153_131, q_153_134, q_153_136, q_153_139, q_153_140, q_153_143, q_153_145, q_153_148, q_153_149, q_153_152, q_153_153, q_153_154, q_153_155, q_153_158, q_153_161, hup, hcn, hcb, pm_some, Option.toList_some, Option.toList_none, List.cons_append, List.nil_append, pm_i0, pm_i1, Nat.reduceAdd, Nat.reduceMul, Int.toNat_natCast, Int.toNat_zero, not_true_eq_false, not_false_eq_true, and_self, true_and, and_true, ↓reduceIte, Int.reduceEq, Int.reduceLT, Int.reduceLE, Int.reduceNeg, Bool.false_eq_true, hlt, pm_up_ne, hu, y1, ht1, htn, hpp, y3]
      · rw [if_neg y1] at el
        by_cases y2 : rk_can Z0 k ((t : Int)) = true
        · rw [if_pos y2] at el
          have hne : rk_lk Z0 k t ≠ -6 := by rw [el]; omega
          rcases hpl with hp | ⟨hp0, hp1⟩
          · have hp0 : (rk_pick Z0 t k).1 < 0 := by rw [hp]; decide
            have ht1 : Z 210 t = -1 := by rw [h1, if_pos hp0]
            have ep : rk_pick Z0 t (k + 1) = ((k : Int), (t : Int)) := by rw [rk_pick_succ, if_pos ⟨hne, Or.inl hp0⟩, el]
            refine key ((k : Int)) ((t : Int)) (.int (pm_J ((t : Int) - 1))) (.int (pm_J ((t : Int)))) (.int (pm_J 0)) (.int (pm_J 1)) ?_ ?_ ?_ ?_
            · rw [ep]; show _ = if (k : Int) < 0 then _ else _; rw [if_neg (by omega)]
            · intro _; rw [ep]
            · rw [ep]; intro q; exact absurd q (by show ¬ (k : Int) < 0; omega)
            · rw [q_153_9]
              simp (disch := first | assumption | decide +kernel | omega | (split <;> omega)) only [q_153_0, q_153_1, q_153_4, q_153_5, q_153_6, q_153_7, q_153_8, q_153_10, q_153_11, q_153_14, q_153_17, q_153_18, q_153_19, q_153_22, q_153_25, q_153_26, q_153_29, q_153_30, q_153_31, q_153_32, q_153_33, q_153_34, q_153_35, q_153_38, q_153_41, q_153_42, q_153_43, q_153_44, q_153_47, q_153_48, q_153_50, q_153_51, q_153_52, q_153_53, q_153_56, q_153_58, q_153_60, q_153_63, q_153_64, q_153_65, q_153_67, q_153_70, q_153_73, q_153_74, q_153_77, q_153_78, q_153_79, q_153_82, q_153_83, q_153_84, q_153_85, q_153_88, q_153_89, q_153_90, q_153_93, q_153_96, q_153_97, q_153_100, q_153_101, q_153_103, q_153_104, q_153_107, q_153_108, q_153_110, q_153_113, q_153_114, q_153_117, q_153_118, q_153_121, q_153_122, q_153_123, q_153_124, q_153_125, q_153_128, q_153_129, q_153_131, q_153_134, q_153_136, q_153_139, q_153_140, q_153_143, q_153_145, q_153_148, q_153_149, q_153_152, q_153_153, q_153_154, q_153_155, q_153_158, q_153_161, hup, hcn, hcb, pm_some, Option.toList_some, Option.toList_none, List.cons_append, List.nil_append, pm_i0, pm_i1, Nat.reduceAdd, Nat.reduceMul, Int.toNat_natCast, Int.toNat_zero, not_true_eq_false, not_false_eq_true, and_self, true_and, and_true, ↓reduceIte, Int.reduceEq, Int.reduceLT, Int.reduceLE, Int.reduceNeg, Bool.false_eq_true, hlt, pm_up_ne, hu, y1, y2, ht1]
          · obtain ⟨p, hp⟩ : ∃ p : Nat, (rk_pick Z0 t k).1 = (p : Int) := ⟨(rk_pick Z0 t k).1.toNat, by omega⟩
            have ht1 : Z 210 t = (p : Int) := by rw [h1, if_neg (by omega), hp]
            have htn : ¬ (p : Int) < 0 := by omega
            have hpp := hpre p (by omega)
            have hpr : pm_r (p : Int) := by omega
            by_cases y3 : md_rk Z0 p < md_rk Z0 k
            · have ep : rk_pick Z0 t (k + 1) = ((k : Int), (t : Int)) := by rw [rk_pick_succ, if_pos ⟨hne, Or.inr (by rw [hp, Int.toNat_natCast]; exact y3)⟩, el]
              refine key ((k : Int)) ((t : Int)) (.int (pm_J ((t : Int) - 1))) (.int (pm_J ((t : Int)))) (.int (pm_J 0)) (.int (pm_J 1)) ?_ ?_ ?_ ?_
              · rw [ep]; show _ = if (k : Int) < 0 then _ else _; rw [if_neg (by omega)]
              · intro _; rw [ep]
              · rw [ep]; intro q; exact absurd q (by show ¬ (k : Int) < 0; omega)
              · rw [q_153_9]
                simp (disch := first | assumption | decide +kernel | omega | (split <;> omega)) only [q_153_0, q_153_1, q_153_4, q_153_5, q_153_6, q_153_7, q_153_8, q_153_10, q_153_11, q_153_14, q_153_17, q_153_18, q_153_19, q_153_22, q_153_25, q_153_26, q_153_29, q_153_30, q_153_31, q_153_32, q_153_33, q_153_34, q_153_35, q_153_38, q_153_41, q_153_42, q_153_43, q_153_44, q_153_47, q_153_48, q_153_50, q_153_51, q_153_52, q_153_53, q_153_56, q_153_58, q_153_60, q_153_63, q_153_64, q_153_65, q_153_67, q_153_70, q_153_73, q_153_74, q_153_77, q_153_78, q_153_79, q_153_82, q_153_83, q_153_84, q_153_85, q_153_88, q_153_89, q_153_90, q_153_93, q_153_96, q_153_97, q_153_100, q_153_101, q_153_103, q_153_104, q_153_107, q_153_108, q_153_110, q_153_113, q_153_114, q_153_117, q_153_118, q_153_121, q_153_122, q_153_123, q_153_124, q_153_125, q_153_128, q_153_129, q_153_131, q_153_134, q_153_136, q_153_139, q_153_140, q_153_143, q_153_145, q_153_148, q_153_149, q_153_152, q_153_153, q_153_154, q_153_155, q_153_158, q_153_161, hup, hcn, hcb, pm_some, Option.toList_some, Option.toList_none, List.cons_append, List.nil_append, pm_i0, pm_i1, Nat.reduceAdd, Nat.reduceMul, Int.toNat_natCast, Int.toNat_zero, not_true_eq_false, not_false_eq_true, and_self, true_and, and_true, ↓reduceIte, Int.reduceEq, Int.reduceLT, Int.reduceLE, Int.reduceNeg, Bool.false_eq_true, hlt, pm_up_ne, hu, y1, y2, ht1, htn, hpp, y3]
            · have hn : ¬ ((rk_pick Z0 t k).1 < 0 ∨ md_rk Z0 (rk_pick Z0 t k).1.toNat < md_rk Z0 k) := by rw [hp, Int.toNat_natCast]; omega
              have ep : rk_pick Z0 t (k + 1) = rk_pick Z0 t k := by rw [rk_pick_succ, if_neg (fun q => hn q.2)]
              refine key (p : Int) (Z 211 t) (.int (pm_J ((t : Int) - 1))) (.int (pm_J ((t : Int)))) (.int (pm_J 0)) (.int (pm_J 0)) ?_ ?_ ?_ ?_
              · rw [ep]; rw [← ht1]; exact h1
              · rw [ep]; exact h2
              · intro _; rfl
              · rw [q_153_9]
                simp (disch := first | assumption | decide +kernel | omega | (split <;> omega)) only [q_153_0, q_153_1, q_153_4, q_153_5, q_153_6, q_153_7, q_153_8, q_153_10, q_153_11, q_153_14, q_153_17, q_153_18, q_153_19, q_153_22, q_153_25, q_153_26, q_153_29, q_153_30, q_153_31, q_153_32, q_153_33, q_153_34, q_153_35, q_153_38, q_153_41, q_153_42, q_153_43, q_153_44, q_153_47, q_153_48, q_153_50, q_153_51, q_153_52, q_153_53, q_153_56, q_153_58, q_153_60, q_153_63, q_153_64, q_153_65, q_153_67, q_153_70, q_153_73, q_153_74, q_153_77, q_153_78, q_153_79, q_153_82, q_153_83, q_153_84, q_153_85, q_153_88, q_153_89, q_153_90, q_153_93, q_153_96, q_153_97, q_153_100, q_153_101, q_153_103, q_153_104, q_153_107, q_153_108, q_153_110, q_153_113, q_153_114, q_153_117, q_153_118, q_153_121, q_153_122, q_153_123, q_153_124, q_153_125, q_153_128, q_153_129, q_153_131, q_153_134, q_153_136, q_153_139, q_153_140, q_153_143, q_153_145, q_153_148, q_153_149, q_153_152, q_153_153, q_153_154, q_153_155, q_153_158, q_153_161, hup, hcn, hcb, pm_some, Option.toList_some, Option.toList_none, List.cons_append, List.nil_append, pm_i0, pm_i1, Nat.reduceAdd, Nat.reduceMul, Int.toNat_natCast, Int.toNat_zero, not_true_eq_false, not_false_eq_true, and_self, true_and, and_true, ↓reduceIte, Int.reduceEq, Int.reduceLT, Int.reduceLE, Int.reduceNeg, Bool.false_eq_true, hlt, pm_up_ne, hu, y1, y2, ht1, htn, hpp, y3]
        · rw [if_neg y2] at el
          have ep : rk_pick Z0 t (k + 1) = rk_pick Z0 t k := by rw [rk_pick_succ, if_neg (fun q => q.1 el)]
          refine key (Z 210 t) (Z 211 t) (.int (pm_J ((t : Int) - 1))) (.int (pm_J ((t : Int)))) (.int (pm_J 0)) (.int (pm_J 0)) ?_ ?_ ?_ ?_
          · rw [ep]; exact h1
          · rw [ep]; exact h2
          · intro _; rfl
          · rw [q_153_9]
            simp (disch := first | assumption | decide +kernel | omega | (split <;> omega)) only [q_153_0, q_153_1, q_153_4, q_153_5, q_153_6, q_153_7, q_153_8, q_153_10, q_153_11, q_153_14, q_153_17, q_153_18, q_153_19, q_153_22, q_153_25, q_153_26, q_153_29, q_153_30, q_153_31, q_153_32, q_153_33, q_153_34, q_153_35, q_153_38, q_153_41, q_153_42, q_153_43, q_153_44, q_153_47, q_153_48, q_153_50, q_153_51, q_153_52, q_153_53, q_153_56, q_153_58, q_153_60, q_153_63, q_153_64, q_153_65, q_153_67, q_153_70, q_153_73, q_153_74, q_153_77, q_153_78, q_153_79, q_153_82, q_153_83, q_153_84, q_153_85, q_153_88, q_153_89, q_153_90, q_153_93, q_153_96, q_153_97, q_153_100, q_153_101, q_153_103, q_153_104, q_153_107, q_153_108, q_153_110, q_153_113, q_153_114, q_153_117, q_153_118, q_153_121, q_153_122, q_153_123, q_153_124, q_153_125, q_153_128, q_153_129, q_153_131, q_153_134, q_153_136, q_153_139, q_153_140, q_153_143, q_153_145, q_153_148, q_153_149, q_153_152, q_153_153, q_153_154, q_153_155, q_153_158, q_153_161, hup, hcn, hcb, pm_some, Option.toList_some, Option.toList_none, List.cons_append, List.nil_append, pm_i0, pm_i1, Nat.reduceAdd, Nat.reduceMul, Int.toNat_natCast, Int.toNat_zero, not_true_eq_false, not_false_eq_true, and_self, true_and, and_true, ↓reduceIte, Int.reduceEq, Int.reduceLT, Int.reduceLE, Int.reduceNeg, Bool.false_eq_true, hlt, pm_up_ne, hu, y1, y2]

theorem c_R_take (t : Nat) (L : Nat) (Z : Nat → Nat → Int) (W : Nat → Nat) (h0 : rok Z) (ht : (t : Int) < Z 190 0) : ∃ Z', pm_D (153, 0, [.ref 190, .int (pm_J (t : Int)), .null, .null, .null, .null, .null], [], pm_hp L Z W) = some (none, pm_hp L Z' W) ∧ (∀ b, b ≠ 210 → b ≠ 211 → Z' b = Z b) ∧ (∀ u, u ≠ t → Z' 210 u = Z 210 u ∧ Z' 211 u = Z 211 u) ∧ Z' 210 t = (if (rk_pick Z t (Z 190 22).toNat).1 < 0 then -1 else (rk_pick Z t (Z 190 22).toNat).1) ∧ (0 ≤ (rk_pick Z t (Z 190 22).toNat).1 → Z' 211 t = (rk_pick Z t (Z 190 22).toNat).2) ∧ ((rk_pick Z t (Z 190 22).toNat).1 < 0 → Z' 211 t = Z 211 t) := by
  obtain ⟨b1, b2, b3, b4, b5, hm⟩ := id h0
  obtain ⟨Z', e, f, u, g1, g2, g3⟩ := l_R_take t L W Z h0 ht (Z 190 22).toNat 0 (pm_up Z 210 t (-1)) .null .null .null .null (fun b q1 q2 => pm_up_row q1) (by omega) (by rw [pm_up_same]; rfl) (fun q => absurd q (by show ¬ (0 ≤ (-6 : Int)); decide))
  rw [show (((0 : Nat)) : Int) = 0 from rfl] at e
  refine ⟨Z', ?_, fun b q1 q2 => by rw [f b q1 q2, pm_up_row q1], fun v hv => by rw [(u v hv).1, (u v hv).2, pm_up_ne (by omega), pm_up_ne (by omega)]; exact ⟨rfl, rfl⟩, g1, g2, fun q => by rw [g3 q, pm_up_row (by omega)]⟩
  have t8 : (t : Int) < 8 := by omega
  simp (disch := first | assumption | decide +kernel | omega | (split <;> omega)) only [q_153_0, q_153_1, q_153_4, q_153_5, q_153_6, q_153_7, q_153_8, q_153_10, q_153_11, q_153_14, q_153_17, q_153_18, q_153_19, q_153_22, q_153_25, q_153_26, q_153_29, q_153_30, q_153_31, q_153_32, q_153_33, q_153_34, q_153_35, q_153_38, q_153_41, q_153_42, q_153_43, q_153_44, q_153_47, q_153_48, q_153_50, q_153_51, q_153_52, q_153_53, q_153_56, q_153_58, q_153_60, q_153_63, q_153_64, q_153_65, q_153_67, q_153_70, q_153_73, q_153_74, q_153_77, q_153_78, q_153_79, q_153_82, q_153_83, q_153_84, q_153_85, q_153_88, q_153_89, q_153_90, q_153_93, q_153_96, q_153_97, q_153_100, q_153_101, q_153_103, q_153_104, q_153_107, q_153_108, q_153_110, q_153_113, q_153_114, q_153_117, q_153_118, q_153_121, q_153_122, q_153_123, q_153_124, q_153_125, q_153_128, q_153_129, q_153_131, q_153_134, q_153_136, q_153_139, q_153_140, q_153_143, q_153_145, q_153_148, q_153_149, q_153_152, q_153_153, q_153_154, q_153_155, q_153_158, q_153_161, pm_some, Option.toList_some, Option.toList_none, List.cons_append, List.nil_append, pm_i0, pm_i1, Nat.reduceAdd, Nat.reduceMul, Int.toNat_natCast, Int.toNat_zero]
  exact e
theorem l_R_takeAll (L : Nat) (W : Nat → Nat) (Z0 : Nat → Nat → Int) (h0 : rok Z0) : ∀ (n t : Nat) (Z : Nat → Nat → Int), (∀ b, b ≠ 210 → b ≠ 211 → Z b = Z0 b) → (t : Int) + n = Z0 190 0 → (∀ u : Nat, u < t → Z 210 u = (if (rk_pick Z0 u (Z0 190 22).toNat).1 < 0 then -1 else (rk_pick Z0 u (Z0 190 22).toNat).1) ∧ (0 ≤ (rk_pick Z0 u (Z0 190 22).toNat).1 → Z 211 u = (rk_pick Z0 u (Z0 190 22).toNat).2)) → ∃ Z', pm_D (156, 2, [.ref 190, .int (pm_J (t : Int))], [], pm_hp L Z W) = some (none, pm_hp L Z' W) ∧ (∀ b, b ≠ 210 → b ≠ 211 → Z' b = Z b) ∧ (∀ u : Nat, (u < t ∨ Z0 190 0 ≤ (u : Int)) → Z' 210 u = Z 210 u ∧ Z' 211 u = Z 211 u) ∧ (∀ u : Nat, (u : Int) < Z0 190 0 → (rk_pick Z0 u (Z0 190 22).toNat).1 < 0 → Z' 211 u = Z 211 u) ∧ (∀ u : Nat, (u : Int) < Z0 190 0 → Z' 210 u = (if (rk_pick Z0 u (Z0 190 22).toNat).1 < 0 then -1 else (rk_pick Z0 u (Z0 190 22).toNat).1) ∧ (0 ≤ (rk_pick Z0 u (Z0 190 22).toNat).1 → Z' 211 u = (rk_pick Z0 u (Z0 190 22).toNat).2)) := by
  obtain ⟨b1, b2, b3, b4, b5, hm⟩ := id h0
  intro n
  induction n with
  | zero =>
    intro t Z hf hk hu
    have z0 : Z 190 0 = Z0 190 0 := by rw [hf 190 (by omega) (by omega)]
    have hlt : ¬ (t : Int) < Z0 190 0 := by omega
    refine ⟨Z, ?_, fun _ _ _ => rfl, fun _ _ => ⟨rfl, rfl⟩, fun _ _ _ => rfl, fun u h => hu u (by omega)⟩
    rw [q_156_2]
    simp (disch := first | assumption | decide +kernel | omega | (split <;> omega)) only [q_156_0, q_156_1, q_156_3, q_156_4, q_156_7, q_156_10, q_156_11, q_156_12, q_156_15, q_156_18, q_156_21, pm_some, Option.toList_some, Option.toList_none, List.cons_append, List.nil_append, pm_i0, pm_i1, Nat.reduceAdd, Nat.reduceMul, Int.toNat_natCast, Int.toNat_zero, not_true_eq_false, not_false_eq_true, and_self, true_and, and_true, ↓reduceIte, Int.reduceEq, Int.reduceLT, Int.reduceLE, Int.reduceNeg, Bool.false_eq_true, z0, hlt]
  | succ n ih =>
    intro t Z hf hk hu
    have z190 := hf 190 (by omega) (by omega)
    have z5 := hf 205 (by omega) (by omega)
    have z6 := hf 206 (by omega) (by omega)
    have z7 := hf 207 (by omega) (by omega)
    have z191 := hf 191 (by omega) (by omega)
    have z0 : Z 190 0 = Z0 190 0 := by rw [z190]
    have hlt : (t : Int) < Z0 190 0 := by omega
    have ep : ∀ u : Int, rk_pick Z u (Z0 190 22).toNat = rk_pick Z0 u (Z0 190 22).toNat := fun u => by
      generalize (Z0 190 22).toNat = m
      induction m with
      | zero => rfl
      | succ m ihm =>
        rw [rk_pick_succ, rk_pick_succ, ihm]
        unfold rk_lk rk_can md_can md_rk
        rw [z190, z191, z5, z6, z7]
    obtain ⟨Z1, e1, f1, u1, g1, g2, g4⟩ := c_R_take t L Z W (rok_congr h0 z190 z191 z5 z6 z7) (by rw [z190]; exact hlt)
    rw [z190, ep] at g1 g2 g4
    obtain ⟨Z2, e2, f2, f3, f4, g3⟩ := ih (t + 1) Z1 (fun b q1 q2 => by rw [f1 b q1 q2, hf b q1 q2]) (by omega) (fun v hv => by
      by_cases hvt : v = t
      · subst hvt
        exact ⟨g1, g2⟩
      · rw [(u1 v hvt).1, (u1 v hvt).2]
        exact hu v (by omega))
    rw [show (((t + 1 : Nat)) : Int) = (t : Int) + 1 by omega] at e2
    refine ⟨Z2, ?_, fun b q1 q2 => by rw [f2 b q1 q2, f1 b q1 q2], fun u hq => ?_, fun u hq hp => ?_, g3⟩
    rotate_left
    · rw [(f3 u (by omega)).1, (f3 u (by omega)).2, (u1 u (by omega)).1, (u1 u (by omega)).2]
      exact ⟨rfl, rfl⟩
    · rw [f4 u hq hp]
      by_cases hut : u = t
      · subst hut
        exact g4 hp
      · exact (u1 u hut).2
    rw [q_156_2]
    simp (disch := first | assumption | decide +kernel | omega | (split <;> omega)) only [q_156_0, q_156_1, q_156_3, q_156_4, q_156_7, q_156_10, q_156_11, q_156_12, q_156_15, q_156_18, q_156_21, pm_some, Option.toList_some, Option.toList_none, List.cons_append, List.nil_append, pm_i0, pm_i1, Nat.reduceAdd, Nat.reduceMul, Int.toNat_natCast, Int.toNat_zero, not_true_eq_false, not_false_eq_true, and_self, true_and, and_true, ↓reduceIte, Int.reduceEq, Int.reduceLT, Int.reduceLE, Int.reduceNeg, Bool.false_eq_true, z0, hlt, e1]
    exact e2
theorem c_R_takeAll (L : Nat) (Z : Nat → Nat → Int) (W : Nat → Nat) (h0 : rok Z) : ∃ Z', pm_D (156, 0, [.ref 190, .null], [], pm_hp L Z W) = some (none, pm_hp L Z' W) ∧ (∀ b, b ≠ 210 → b ≠ 211 → Z' b = Z b) ∧ (∀ u : Nat, Z 190 0 ≤ (u : Int) → Z' 210 u = Z 210 u ∧ Z' 211 u = Z 211 u) ∧ (∀ u : Nat, (u : Int) < Z 190 0 → (rk_pick Z u (Z 190 22).toNat).1 < 0 → Z' 211 u = Z 211 u) ∧ (∀ u : Nat, (u : Int) < Z 190 0 → Z' 210 u = (if (rk_pick Z u (Z 190 22).toNat).1 < 0 then -1 else (rk_pick Z u (Z 190 22).toNat).1) ∧ (0 ≤ (rk_pick Z u (Z 190 22).toNat).1 → Z' 211 u = (rk_pick Z u (Z 190 22).toNat).2)) := by
  obtain ⟨b1, b2, b3, b4, b5, hm⟩ := id h0
  obtain ⟨Z', e, f, f3, f4, g⟩ := l_R_takeAll L W Z h0 (Z 190 0).toNat 0 Z (fun _ _ _ => rfl) (by omega) (fun u h => absurd h (by omega))
  refine ⟨Z', ?_, f, fun u hu => f3 u (Or.inr hu), f4, g⟩
  rw [q_156_0, q_156_1]
  exact e
