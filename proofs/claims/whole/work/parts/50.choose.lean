/-! what the towers take -/
/-- a message object that can be looked at -/
def cm_ok (Z : Nat → Nat → Int) (a : Nat) : Prop := 0 ≤ Z a 2 ∧ Z a 2 ≤ 1 ∧ 0 ≤ Z a 3 ∧ Z a 3 < 8 ∧ 0 ≤ Z a 4 ∧ Z a 4 < 8 ∧ 0 ≤ Z a 5 ∧ Z a 5 ≤ 2 ∧ pm_r (Z a 7) ∧ ∀ t : Nat, Z a 3 ≤ t → (t : Int) ≤ Z a 4 → pm_r (Z (a + 2) t)
def cm_can (Z : Nat → Nat → Int) (a : Nat) (l : Int) : Bool :=
  decide (Z a 7 = 0) && decide (Z a 3 ≤ l) && decide (l < Z a 4) && decide (Z (a + 2) (if Z a 2 = 0 then l else l + 1).toNat < Z (a + 2) (if Z a 2 = 0 then l + 1 else l).toNat)
def cm_lk (Z : Nat → Nat → Int) (a : Nat) (t : Int) : Int :=
  if cm_can Z a (if Z a 2 = 0 then t - 1 else t) = true then (if Z a 2 = 0 then t - 1 else t)
  else if cm_can Z a (if Z a 2 = 0 then t else t - 1) = true then (if Z a 2 = 0 then t else t - 1) else -6
def cm_rk (Z : Nat → Nat → Int) (a : Nat) : Int := 2 * Z a 5 + Z a 2
def cm_pick (o : Nat) (Z : Nat → Nat → Int) (t : Int) : Nat → Int × Int
  | 0 => (-6, -6)
  | k + 1 => if cm_lk Z (o + 9 + 6 + 5 * k) t ≠ -6 ∧ ((cm_pick o Z t k).1 < 0 ∨ cm_rk Z (o + 9 + 6 + 5 * (cm_pick o Z t k).1.toNat) < cm_rk Z (o + 9 + 6 + 5 * k)) then ((k : Int), cm_lk Z (o + 9 + 6 + 5 * k) t) else cm_pick o Z t k
theorem cm_pick_succ (o : Nat) (Z : Nat → Nat → Int) (t : Int) (k : Nat) : cm_pick o Z t (k + 1) = if cm_lk Z (o + 9 + 6 + 5 * k) t ≠ -6 ∧ ((cm_pick o Z t k).1 < 0 ∨ cm_rk Z (o + 9 + 6 + 5 * (cm_pick o Z t k).1.toNat) < cm_rk Z (o + 9 + 6 + 5 * k)) then ((k : Int), cm_lk Z (o + 9 + 6 + 5 * k) t) else cm_pick o Z t k := rfl
theorem cm_pick_lt (o : Nat) (Z : Nat → Nat → Int) (t : Int) : ∀ k : Nat, (cm_pick o Z t k).1 < (k : Int) + (if k = 0 then 1 else 0) ∧ (cm_pick o Z t k = (-6, -6) ∨ 0 ≤ (cm_pick o Z t k).1)
  | 0 => ⟨by show (-6 : Int) < ((0 : Nat) : Int) + 1; decide, Or.inl rfl⟩
  | k + 1 => by
    have ih := cm_pick_lt o Z t k
    rw [cm_pick_succ]
    split
    · refine ⟨?_, Or.inr ?_⟩
      · show (k : Int) < _
        rw [if_neg (by omega)]
        omega
      · show 0 ≤ (k : Int)
        omega
    · refine ⟨?_, ih.2⟩
      have h1 := ih.1
      rw [if_neg (by omega)]
      split at h1
      · rcases ih.2 with h2 | h2
        · rw [h2]
          show (-6 : Int) < _
          omega
        · omega
      · omega
theorem cm_ok_of {a i : Nat} {T : Int} {Z : Nat → Nat → Int} (h : lm a T Z i) (h8 : Z 190 0 ≤ 8) : cm_ok Z a := by
  obtain ⟨⟨⟨s1, s2, s3, s4, s5, s6, s7⟩, ⟨s8, s9, s10⟩, s11, s12, s13, s14, s15, s16, s17, s18, s19⟩, ⟨d1, d2, d3, d4, d5, d6, d7, d8, d9⟩, ml, mp, mc, mo⟩ := h
  have b2 : 0 ≤ Z a 2 ∧ Z a 2 ≤ 1 := by rw [s8]; split <;> omega
  have b3 : 0 ≤ Z a 3 ∧ Z a 3 < 8 := by rw [s9]; split <;> omega
  have b4 : 0 ≤ Z a 4 ∧ Z a 4 < 8 := by rw [s10]; split <;> omega
  refine ⟨b2.1, b2.2, b3.1, b3.2, b4.1, b4.2, by omega, by omega, by omega, fun t h1 h2 => ?_⟩
  have := ml t h1 h2
  omega
theorem cm_can_eq {a i : Nat} {T : Int} {Z : Nat → Nat → Int} (h : lm a T Z i) (l : Int) : cm_can Z a l = md_can Z i l := by
  obtain ⟨⟨⟨s1, s2, s3, s4, s5, s6, s7⟩, ⟨s8, s9, s10⟩, s11, s12, s13, s14, s15, s16, s17, s18, s19⟩, ⟨d1, d2, d3, d4, d5, d6, d7, d8, d9⟩, ml, mp, mc, mo⟩ := h
  by_cases hl : Z a 3 ≤ l ∧ l < Z a 4
  · have b3 : 0 ≤ Z a 3 := by rw [s9]; split <;> omega
    have m1 := (ml l.toNat (by omega) (by omega)).1
    have m2 := (ml (l + 1).toNat (by omega) (by omega)).1
    unfold cm_can md_can
    rw [s9, s10, s8, d1]
    by_cases hu : Z 205 i < Z 206 i
    · simp only [if_pos hu, not_true_eq_false, not_false_eq_true, and_self, true_and, and_true, ↓reduceIte, Int.reduceEq, Int.reduceLT, Int.reduceLE, Int.reduceNeg, Bool.false_eq_true]
      rw [m1, m2]
    · simp only [if_neg hu, not_true_eq_false, not_false_eq_true, and_self, true_and, and_true, ↓reduceIte, Int.reduceEq, Int.reduceLT, Int.reduceLE, Int.reduceNeg, Bool.false_eq_true]
      rw [m1, m2]
  · have e1 : cm_can Z a l = false := by
      unfold cm_can
      simp only [Bool.and_eq_false_iff, decide_eq_false_iff_not]
      omega
    have e2 : md_can Z i l = false := by
      rw [s9, s10] at hl
      unfold md_can
      simp only [Bool.and_eq_false_iff, decide_eq_false_iff_not]
      omega
    rw [e1, e2]
theorem cm_lk_eq {a i : Nat} {T : Int} {Z : Nat → Nat → Int} (h : lm a T Z i) (t : Int) : cm_lk Z a t = md_lk Z i t := by
  unfold cm_lk md_lk
  simp only [cm_can_eq h]
  obtain ⟨⟨-, ⟨s8, s9, s10⟩, -⟩, -⟩ := h
  rw [s8]
  by_cases hu : Z 205 i < Z 206 i
  · simp only [if_pos hu, not_true_eq_false, not_false_eq_true, and_self, true_and, and_true, ↓reduceIte, Int.reduceEq, Int.reduceLT, Int.reduceLE, Int.reduceNeg, Bool.false_eq_true]
  · simp only [if_neg hu, not_true_eq_false, not_false_eq_true, and_self, true_and, and_true, ↓reduceIte, Int.reduceEq, Int.reduceLT, Int.reduceLE, Int.reduceNeg, Bool.false_eq_true]
theorem cm_rk_eq {a i : Nat} {T : Int} {Z : Nat → Nat → Int} (h : lm a T Z i) : cm_rk Z a = md_rk Z i := by
  obtain ⟨⟨-, ⟨s8, s9, s10⟩, s11, -⟩, -⟩ := h
  unfold cm_rk md_rk
  rw [s8, s11]
theorem cm_pick_eq {o n : Nat} {T : Int} {Z : Nat → Nat → Int} (h : ∀ i : Nat, i < n → lm (o + 9 + 6 + 5 * i) T Z i) (t : Int) : ∀ k : Nat, k ≤ n → cm_pick o Z t k = md_pick Z t k
  | 0, _ => rfl
  | k + 1, hk => by
    have ih := cm_pick_eq h t k (by omega)
    have hl := cm_pick_lt o Z t k
    rw [cm_pick_succ, ih, cm_lk_eq (h k (by omega)), cm_rk_eq (h k (by omega))]
    rw [ih] at hl
    by_cases h0 : (md_pick Z t k).1 < 0
    · simp only [md_pick, h0, true_or]
    · have : (md_pick Z t k).1.toNat < n := by
        have := hl.1
        split at this <;> omega
      rw [cm_rk_eq (h _ this)]
      rfl
theorem cm_lk_congr {a : Nat} {Z Z' : Nat → Nat → Int} (h0 : Z' a = Z a) (h2 : Z' (a + 2) = Z (a + 2)) (t : Int) : cm_lk Z' a t = cm_lk Z a t := by
  unfold cm_lk cm_can
  rw [h0, h2]
theorem cm_rk_congr {a : Nat} {Z Z' : Nat → Nat → Int} (h0 : Z' a = Z a) : cm_rk Z' a = cm_rk Z a := by
  unfold cm_rk
  rw [h0]
theorem cm_ok_congr {a : Nat} {Z Z' : Nat → Nat → Int} (h : cm_ok Z a) (h0 : Z' a = Z a) (h2 : Z' (a + 2) = Z (a + 2)) : cm_ok Z' a := by
  unfold cm_ok at h ⊢
  rw [h0, h2]
  exact h
theorem cm_pick_congr {o n : Nat} {Z Z' : Nat → Nat → Int} (h : ∀ i : Nat, i < n → Z' (o + 9 + 6 + 5 * i) = Z (o + 9 + 6 + 5 * i) ∧ Z' (o + 9 + 6 + 5 * i + 2) = Z (o + 9 + 6 + 5 * i + 2)) (t : Int) : ∀ k : Nat, k ≤ n → cm_pick o Z' t k = cm_pick o Z t k
  | 0, _ => rfl
  | k + 1, hk => by
    have ih := cm_pick_congr h t k (by omega)
    have hl := cm_pick_lt o Z t k
    rw [cm_pick_succ, cm_pick_succ, ih, cm_lk_congr (h k (by omega)).1 (h k (by omega)).2, cm_rk_congr (h k (by omega)).1]
    by_cases h0 : (cm_pick o Z t k).1 < 0
    · simp only [h0, true_or]
    · rw [cm_rk_congr (h _ (by have := hl.1; split at this <;> omega)).1]
theorem c_canUse {a : Nat} (l : Int) (L : Nat) (Z : Nat → Nat → Int) (W : Nat → Nat) (k1 : pm_kd a = 4) (k2 : pm_kd (a + 2) = 11) (k3 : pm_ln (a + 2) = 8) (hl : pm_r l) (h : cm_ok Z a) : pm_D (47, 0, [.ref a, .int (pm_J l)], [], pm_hp L Z W) = some (some (.int (pm_J (if cm_can Z a l = true then 1 else 0))), pm_hp L Z W) := by
  obtain ⟨c1, c2, c3, c4, c5, c6, c7, c8, c9, c10⟩ := h
  have r3 : pm_r (Z a 3) := by omega
  have r4 : pm_r (Z a 4) := by omega
  have r2 : pm_r (Z a 2) := by omega
  unfold cm_can
  by_cases hu : Z a 7 = 0
  · by_cases hw : Z a 3 ≤ l ∧ l < Z a 4
    · have v1 := c10 l.toNat (by omega) (by omega)
      have v2 := c10 (l + 1).toNat (by omega) (by omega)
      by_cases hg : Z a 2 = 0
      · by_cases hx : Z (a + 2) l.toNat < Z (a + 2) (l + 1).toNat
        · simp (disch := first | assumption | decide +kernel | omega | (split <;> omega)) only [q_47_0, q_47_1, q_47_4, q_47_7, q_47_8, q_47_9, q_47_12, q_47_15, q_47_16, q_47_19, q_47_20, q_47_21, q_47_24, q_47_25, q_47_26, q_47_29, q_47_30, q_47_31, q_47_34, q_47_35, q_47_38, q_47_39, q_47_42, q_47_43, c_isUnderWay, c_passesLink, c_towerBefore, c_towerBehind, pm_some, Option.toList_some, Option.toList_none, List.cons_append, List.nil_append, pm_i0, pm_i1, Nat.reduceAdd, Nat.reduceMul, Int.toNat_natCast, Int.toNat_zero, hu, hw, hg, hx, not_true_eq_false, not_false_eq_true, and_self, true_and, and_true, ↓reduceIte, Int.reduceEq, Int.reduceLT, Int.reduceLE, Int.reduceNeg, Bool.false_eq_true, decide_true, Bool.and_self]
        · simp (disch := first | assumption | decide +kernel | omega | (split <;> omega)) only [q_47_0, q_47_1, q_47_4, q_47_7, q_47_8, q_47_9, q_47_12, q_47_15, q_47_16, q_47_19, q_47_20, q_47_21, q_47_24, q_47_25, q_47_26, q_47_29, q_47_30, q_47_31, q_47_34, q_47_35, q_47_38, q_47_39, q_47_42, q_47_43, c_isUnderWay, c_passesLink, c_towerBefore, c_towerBehind, pm_some, Option.toList_some, Option.toList_none, List.cons_append, List.nil_append, pm_i0, pm_i1, Nat.reduceAdd, Nat.reduceMul, Int.toNat_natCast, Int.toNat_zero, hu, hw, hg, hx, not_true_eq_false, not_false_eq_true, and_self, true_and, and_true, ↓reduceIte, Int.reduceEq, Int.reduceLT, Int.reduceLE, Int.reduceNeg, Bool.false_eq_true, decide_true, decide_false, Bool.and_false]
      · by_cases hx : Z (a + 2) (l + 1).toNat < Z (a + 2) l.toNat
        · simp (disch := first | assumption | decide +kernel | omega | (split <;> omega)) only [q_47_0, q_47_1, q_47_4, q_47_7, q_47_8, q_47_9, q_47_12, q_47_15, q_47_16, q_47_19, q_47_20, q_47_21, q_47_24, q_47_25, q_47_26, q_47_29, q_47_30, q_47_31, q_47_34, q_47_35, q_47_38, q_47_39, q_47_42, q_47_43, c_isUnderWay, c_passesLink, c_towerBefore, c_towerBehind, pm_some, Option.toList_some, Option.toList_none, List.cons_append, List.nil_append, pm_i0, pm_i1, Nat.reduceAdd, Nat.reduceMul, Int.toNat_natCast, Int.toNat_zero, hu, hw, hg, hx, not_true_eq_false, not_false_eq_true, and_self, true_and, and_true, ↓reduceIte, Int.reduceEq, Int.reduceLT, Int.reduceLE, Int.reduceNeg, Bool.false_eq_true, decide_true, Bool.and_self]
        · simp (disch := first | assumption | decide +kernel | omega | (split <;> omega)) only [q_47_0, q_47_1, q_47_4, q_47_7, q_47_8, q_47_9, q_47_12, q_47_15, q_47_16, q_47_19, q_47_20, q_47_21, q_47_24, q_47_25, q_47_26, q_47_29, q_47_30, q_47_31, q_47_34, q_47_35, q_47_38, q_47_39, q_47_42, q_47_43, c_isUnderWay, c_passesLink, c_towerBefore, c_towerBehind, pm_some, Option.toList_some, Option.toList_none, List.cons_append, List.nil_append, pm_i0, pm_i1, Nat.reduceAdd, Nat.reduceMul, Int.toNat_natCast, Int.toNat_zero, hu, hw, hg, hx, not_true_eq_false, not_false_eq_true, and_self, true_and, and_true, ↓reduceIte, Int.reduceEq, Int.reduceLT, Int.reduceLE, Int.reduceNeg, Bool.false_eq_true, decide_true, decide_false, Bool.and_false]
    · have hf : (decide (Z a 3 ≤ l) && decide (l < Z a 4)) = false := by
        simp only [Bool.and_eq_false_iff, decide_eq_false_iff_not]
        omega
      simp (disch := first | assumption | decide +kernel | omega | (split <;> omega)) only [q_47_0, q_47_1, q_47_4, q_47_7, q_47_8, q_47_9, q_47_12, q_47_15, q_47_16, q_47_19, q_47_20, q_47_21, q_47_24, q_47_25, q_47_26, q_47_29, q_47_30, q_47_31, q_47_34, q_47_35, q_47_38, q_47_39, q_47_42, q_47_43, c_isUnderWay, c_passesLink, pm_some, Option.toList_some, Option.toList_none, List.cons_append, List.nil_append, pm_i0, pm_i1, Nat.reduceAdd, Nat.reduceMul, Int.toNat_natCast, Int.toNat_zero, hu, hw, not_true_eq_false, not_false_eq_true, and_self, true_and, and_true, ↓reduceIte, Int.reduceEq, Int.reduceLT, Int.reduceLE, Int.reduceNeg, Bool.false_eq_true, decide_true, Bool.true_and, hf, Bool.false_and]
  · simp (disch := first | assumption | decide +kernel | omega | (split <;> omega)) only [q_47_0, q_47_1, q_47_4, q_47_7, q_47_8, q_47_9, q_47_12, q_47_15, q_47_16, q_47_19, q_47_20, q_47_21, q_47_24, q_47_25, q_47_26, q_47_29, q_47_30, q_47_31, q_47_34, q_47_35, q_47_38, q_47_39, q_47_42, q_47_43, c_isUnderWay, pm_some, Option.toList_some, Option.toList_none, List.cons_append, List.nil_append, pm_i0, pm_i1, Nat.reduceAdd, Nat.reduceMul, Int.toNat_natCast, Int.toNat_zero, hu, not_true_eq_false, not_false_eq_true, and_self, true_and, and_true, ↓reduceIte, Int.reduceEq, Int.reduceLT, Int.reduceLE, Int.reduceNeg, Bool.false_eq_true, decide_false, Bool.false_and]
theorem c_rank {a : Nat} (L : Nat) (Z : Nat → Nat → Int) (W : Nat → Nat) (k1 : pm_kd a = 4) (h : cm_ok Z a) : pm_D (49, 0, [.ref a], [], pm_hp L Z W) = some (some (.int (pm_J (cm_rk Z a))), pm_hp L Z W) := by
  obtain ⟨c1, c2, c3, c4, c5, c6, c7, c8, c9, c10⟩ := h
  unfold cm_rk
  rcases (show Z a 2 = 0 ∨ Z a 2 = 1 by omega) with hg | hg
  · simp (disch := first | assumption | decide +kernel | omega | (split <;> omega)) only [q_49_0, q_49_1, q_49_2, q_49_5, q_49_6, q_49_7, q_49_10, q_49_13, q_49_14, q_49_17, q_49_18, q_49_19, pm_some, Option.toList_some, Option.toList_none, List.cons_append, List.nil_append, pm_i0, pm_i1, Nat.reduceAdd, Nat.reduceMul, Int.toNat_natCast, Int.toNat_zero, hg, not_true_eq_false, not_false_eq_true, and_self, true_and, and_true, ↓reduceIte, Int.reduceEq, Int.reduceLT, Int.reduceLE, Int.reduceNeg, Bool.false_eq_true]
  · simp (disch := first | assumption | decide +kernel | omega | (split <;> omega)) only [q_49_0, q_49_1, q_49_2, q_49_5, q_49_6, q_49_7, q_49_10, q_49_13, q_49_14, q_49_17, q_49_18, q_49_19, pm_some, Option.toList_some, Option.toList_none, List.cons_append, List.nil_append, pm_i0, pm_i1, Nat.reduceAdd, Nat.reduceMul, Int.toNat_natCast, Int.toNat_zero, hg, not_true_eq_false, not_false_eq_true, and_self, true_and, and_true, ↓reduceIte, Int.reduceEq, Int.reduceLT, Int.reduceLE, Int.reduceNeg, Bool.false_eq_true]
theorem c_linkFor {a : Nat} (t : Int) (L : Nat) (Z : Nat → Nat → Int) (W : Nat → Nat) (k1 : pm_kd a = 4) (k2 : pm_kd (a + 2) = 11) (k3 : pm_ln (a + 2) = 8) (t0 : 0 ≤ t) (t1 : t < 8) (h : cm_ok Z a) : pm_D (48, 0, [.ref a, .int (pm_J t), .null, .null], [], pm_hp L Z W) = some (some (.int (pm_J (cm_lk Z a t))), pm_hp L Z W) := by
  obtain ⟨c1, c2, -⟩ := id h
  unfold cm_lk
  rcases (show Z a 2 = 0 ∨ Z a 2 = 1 by omega) with hg | hg
  · by_cases x1 : cm_can Z a (t - 1) = true
    · simp (disch := first | assumption | decide +kernel | omega | (split <;> omega)) only [q_48_0, q_48_1, q_48_4, q_48_7, q_48_8, q_48_11, q_48_12, q_48_13, q_48_14, q_48_15, q_48_16, q_48_19, q_48_22, q_48_23, q_48_24, q_48_25, q_48_28, q_48_29, q_48_30, q_48_31, q_48_32, q_48_35, q_48_38, q_48_39, q_48_40, q_48_41, q_48_42, q_48_45, q_48_48, q_48_49, q_48_52, q_48_54, c_canUse, pm_some, Option.toList_some, Option.toList_none, List.cons_append, List.nil_append, pm_i0, pm_i1, Nat.reduceAdd, Nat.reduceMul, Int.toNat_natCast, Int.toNat_zero, hg, x1, not_true_eq_false, not_false_eq_true, and_self, true_and, and_true, ↓reduceIte, Int.reduceEq, Int.reduceLT, Int.reduceLE, Int.reduceNeg, Bool.false_eq_true]
    · by_cases x2 : cm_can Z a t = true
      · simp (disch := first | assumption | decide +kernel | omega | (split <;> omega)) only [q_48_0, q_48_1, q_48_4, q_48_7, q_48_8, q_48_11, q_48_12, q_48_13, q_48_14, q_48_15, q_48_16, q_48_19, q_48_22, q_48_23, q_48_24, q_48_25, q_48_28, q_48_29, q_48_30, q_48_31, q_48_32, q_48_35, q_48_38, q_48_39, q_48_40, q_48_41, q_48_42, q_48_45, q_48_48, q_48_49, q_48_52, q_48_54, c_canUse, pm_some, Option.toList_some, Option.toList_none, List.cons_append, List.nil_append, pm_i0, pm_i1, Nat.reduceAdd, Nat.reduceMul, Int.toNat_natCast, Int.toNat_zero, hg, x1, x2, not_true_eq_false, not_false_eq_true, and_self, true_and, and_true, ↓reduceIte, Int.reduceEq, Int.reduceLT, Int.reduceLE, Int.reduceNeg, Bool.false_eq_true]
      · simp (disch := first | assumption | decide +kernel | omega | (split <;> omega)) only [q_48_0, q_48_1, q_48_4, q_48_7, q_48_8, q_48_11, q_48_12, q_48_13, q_48_14, q_48_15, q_48_16, q_48_19, q_48_22, q_48_23, q_48_24, q_48_25, q_48_28, q_48_29, q_48_30, q_48_31, q_48_32, q_48_35, q_48_38, q_48_39, q_48_40, q_48_41, q_48_42, q_48_45, q_48_48, q_48_49, q_48_52, q_48_54, c_canUse, pm_some, Option.toList_some, Option.toList_none, List.cons_append, List.nil_append, pm_i0, pm_i1, Nat.reduceAdd, Nat.reduceMul, Int.toNat_natCast, Int.toNat_zero, hg, x1, x2, not_true_eq_false, not_false_eq_true, and_self, true_and, and_true, ↓reduceIte, Int.reduceEq, Int.reduceLT, Int.reduceLE, Int.reduceNeg, Bool.false_eq_true]
  · by_cases x1 : cm_can Z a t = true
    · simp (disch := first | assumption | decide +kernel | omega | (split <;> omega)) only [q_48_0, q_48_1, q_48_4, q_48_7, q_48_8, q_48_11, q_48_12, q_48_13, q_48_14, q_48_15, q_48_16, q_48_19, q_48_22, q_48_23, q_48_24, q_48_25, q_48_28, q_48_29, q_48_30, q_48_31, q_48_32, q_48_35, q_48_38, q_48_39, q_48_40, q_48_41, q_48_42, q_48_45, q_48_48, q_48_49, q_48_52, q_48_54, c_canUse, pm_some, Option.toList_some, Option.toList_none, List.cons_append, List.nil_append, pm_i0, pm_i1, Nat.reduceAdd, Nat.reduceMul, Int.toNat_natCast, Int.toNat_zero, hg, x1, not_true_eq_false, not_false_eq_true, and_self, true_and, and_true, ↓reduceIte, Int.reduceEq, Int.reduceLT, Int.reduceLE, Int.reduceNeg, Bool.false_eq_true]
    · by_cases x2 : cm_can Z a (t - 1) = true
      · simp (disch := first | assumption | decide +kernel | omega | (split <;> omega)) only [q_48_0, q_48_1, q_48_4, q_48_7, q_48_8, q_48_11, q_48_12, q_48_13, q_48_14, q_48_15, q_48_16, q_48_19, q_48_22, q_48_23, q_48_24, q_48_25, q_48_28, q_48_29, q_48_30, q_48_31, q_48_32, q_48_35, q_48_38, q_48_39, q_48_40, q_48_41, q_48_42, q_48_45, q_48_48, q_48_49, q_48_52, q_48_54, c_canUse, pm_some, Option.toList_some, Option.toList_none, List.cons_append, List.nil_append, pm_i0, pm_i1, Nat.reduceAdd, Nat.reduceMul, Int.toNat_natCast, Int.toNat_zero, hg, x1, x2, not_true_eq_false, not_false_eq_true, and_self, true_and, and_true, ↓reduceIte, Int.reduceEq, Int.reduceLT, Int.reduceLE, Int.reduceNeg, Bool.false_eq_true]
      · simp (disch := first | assumption | decide +kernel | omega | (split <;> omega)) only [q_48_0, q_48_1, q_48_4, q_48_7, q_48_8, q_48_11, q_48_12, q_48_13, q_48_14, q_48_15, q_48_16, q_48_19, q_48_22, q_48_23, q_48_24, q_48_25, q_48_28, q_48_29, q_48_30, q_48_31, q_48_32, q_48_35, q_48_38, q_48_39, q_48_40, q_48_41, q_48_42, q_48_45, q_48_48, q_48_49, q_48_52, q_48_54, c_canUse, pm_some, Option.toList_some, Option.toList_none, List.cons_append, List.nil_append, pm_i0, pm_i1, Nat.reduceAdd, Nat.reduceMul, Int.toNat_natCast, Int.toNat_zero, hg, x1, x2, not_true_eq_false, not_false_eq_true, and_self, true_and, and_true, ↓reduceIte, Int.reduceEq, Int.reduceLT, Int.reduceLE, Int.reduceNeg, Bool.false_eq_true]
theorem cm_lk_r {a : Nat} {Z : Nat → Nat → Int} (t : Int) : cm_lk Z a t = t ∨ cm_lk Z a t = t - 1 ∨ cm_lk Z a t = -6 := by
  unfold cm_lk
  repeat' split
  all_goals first | exact Or.inl rfl | exact Or.inr (Or.inl rfl) | exact Or.inr (Or.inr rfl)
/-- the loop over the messages -/
theorem l_choose2 {o : Nat} (ho : pm_isL o) (t : Nat) (ht : t < 8) (L : Nat) (W : Nat → Nat) (Z0 : Nat → Nat → Int) (hc : Z0 o 4 ≤ 10) (hok : ∀ i : Nat, (i : Int) < Z0 o 4 → cm_ok Z0 (o + 9 + 6 + 5 * i)) : ∀ (n k : Nat) (Z : Nat → Nat → Int) (r : Int) (v4 v5 : Value), (∀ b, b ≠ o + 13 → b ≠ o + 14 → Z b = Z0 b) → (k : Int) + n = Z0 o 4 → Z (o + 13) t = (cm_pick o Z0 t k).1 → Z (o + 14) t = (cm_pick o Z0 t k).2 → r = (if (cm_pick o Z0 t k).1 < 0 then -6 else cm_rk Z0 (o + 9 + 6 + 5 * (cm_pick o Z0 t k).1.toNat)) → ∃ (Z' : Nat → Nat → Int) (w2 w3 w4 w5 : Value), pm_D (27, 39, [.ref o, .int (pm_J (t : Int)), .int (pm_J r), .int (pm_J (k : Int)), v4, v5], [], pm_hp L Z W) = pm_D (27, 10, [.ref o, .int (pm_J ((t : Int) + 1)), w2, w3, w4, w5], [], pm_hp L Z' W) ∧ (∀ b, b ≠ o + 13 → b ≠ o + 14 → Z' b = Z b) ∧ (∀ u, u ≠ t → Z' (o + 13) u = Z (o + 13) u ∧ Z' (o + 14) u = Z (o + 14) u) ∧ Z' (o + 13) t = (cm_pick o Z0 t (Z0 o 4).toNat).1 ∧ Z' (o + 14) t = (cm_pick o Z0 t (Z0 o 4).toNat).2 := by
  obtain ⟨k1, k2, k3, k4, k5, k6, k7, k8, k9, k10, k11, k12, k13, k14, k15⟩ := pm_kdL ho
  intro n
  induction n with
  | zero =>
    intro k Z r v4 v5 hf hk h13 h14 hr
    have z4 : Z o 4 = Z0 o 4 := by rw [hf o (by omega) (by omega)]
    have hlt : ¬ (k : Int) < Z0 o 4 := by omega
    have ek : (Z0 o 4).toNat = k := by omega
    refine ⟨Z, .int (pm_J r), .int (pm_J (k : Int)), v4, v5, ?_, fun _ _ _ => rfl, fun _ _ => ⟨rfl, rfl⟩, by rw [ek]; exact h13, by rw [ek]; exact h14⟩
    rw [q_27_39]
    simp (disch := first | assumption | decide +kernel | omega | (split <;> omega)) only [q_27_0, q_27_1, q_27_4, q_27_7, q_27_8, q_27_9, q_27_11, q_27_12, q_27_15, q_27_18, q_27_19, q_27_22, q_27_23, q_27_25, q_27_26, q_27_27, q_27_30, q_27_31, q_27_33, q_27_34, q_27_36, q_27_37, q_27_38, q_27_40, q_27_41, q_27_44, q_27_47, q_27_48, q_27_51, q_27_52, q_27_53, q_27_56, q_27_58, q_27_60, q_27_61, q_27_64, q_27_65, q_27_68, q_27_69, q_27_70, q_27_71, q_27_74, q_27_77, q_27_79, q_27_81, q_27_83, q_27_85, q_27_88, q_27_89, q_27_92, q_27_93, q_27_94, q_27_95, q_27_96, q_27_99, q_27_100, q_27_102, q_27_103, q_27_105, q_27_106, q_27_109, q_27_112, q_27_115, q_27_118, q_27_119, q_27_120, q_27_123, pm_some, Option.toList_some, Option.toList_none, List.cons_append, List.nil_append, pm_i0, pm_i1, Nat.reduceAdd, Nat.reduceMul, Int.toNat_natCast, Int.toNat_zero, not_true_eq_false, not_false_eq_true, and_self, true_and, and_true, ↓reduceIte, Int.reduceEq, Int.reduceLT, Int.reduceLE, Int.reduceNeg, Bool.false_eq_true, z4, hlt]
  | succ n ih =>
    intro k Z r v4 v5 hf hk h13 h14 hr
    have z4 : Z o 4 = Z0 o 4 := by rw [hf o (by omega) (by omega)]
    have hlt : (k : Int) < Z0 o 4 := by omega
    obtain ⟨m1, -, -, m2, m3, -⟩ := pm_kdM (n := k) ho (by omega)
    have za := hf (o + 9 + 6 + 5 * k) (by omega) (by omega)
    have za2 := hf (o + 9 + 6 + 5 * k + 2) (by omega) (by omega)
    have hok' := hok k hlt
    have hokZ : cm_ok Z (o + 9 + 6 + 5 * k) := cm_ok_congr hok' za za2
    have ek := cm_rk_congr za
    have el := cm_lk_congr za za2 (t : Int)
    have hcr := c_rank L Z W m1 hokZ
    have hcl := c_linkFor (t : Int) L Z W m1 m2 m3 (by omega) (by omega) hokZ
    rw [ek] at hcr
    rw [el] at hcl
    have hlr := cm_lk_r (a := o + 9 + 6 + 5 * k) (Z := Z0) (t : Int)
    have hrk : 0 ≤ cm_rk Z0 (o + 9 + 6 + 5 * k) ∧ cm_rk Z0 (o + 9 + 6 + 5 * k) ≤ 5 := by
      obtain ⟨c1, c2, c3, c4, c5, c6, c7, c8, -⟩ := hok'
      unfold cm_rk
      omega
    have hpl := cm_pick_lt o Z0 t k
    have hrr : -6 ≤ r ∧ r ≤ 5 := by
      rw [hr]
      by_cases h0 : (cm_pick o Z0 t k).1 < 0
      · rw [if_pos h0]; omega
      · rw [if_neg h0]
        obtain ⟨c1, c2, c3, c4, c5, c6, c7, c8, -⟩ := hok (cm_pick o Z0 t k).1.toNat (by have := hpl.1; split at this <;> omega)
        unfold cm_rk
        omega
    have hstep : (cm_rk Z0 (o + 9 + 6 + 5 * k) > r) ↔ ((cm_pick o Z0 t k).1 < 0 ∨ cm_rk Z0 (o + 9 + 6 + 5 * (cm_pick o Z0 t k).1.toNat) < cm_rk Z0 (o + 9 + 6 + 5 * k)) := by
      rw [hr]
      by_cases h0 : (cm_pick o Z0 t k).1 < 0
      · rw [if_pos h0]
        constructor
        · intro _; exact Or.inl h0
        · intro _; omega
      · rw [if_neg h0]
        constructor
        · intro h; exact Or.inr h
        · rintro (h | h)
          · exact absurd h h0
          · exact h
    by_cases hg : r < cm_rk Z0 (o + 9 + 6 + 5 * k)
    · by_cases hne : cm_lk Z0 (o + 9 + 6 + 5 * k) t = -6
      · have ep : cm_pick o Z0 t (k + 1) = cm_pick o Z0 t k := by rw [cm_pick_succ, if_neg (fun q => q.1 hne)]
        obtain ⟨Z', w2, w3, w4, w5, e, f, u, g1, g2⟩ := ih (k + 1) Z r (.int (pm_J (cm_rk Z0 (o + 9 + 6 + 5 * k)))) (.int (pm_J (-6))) hf (by omega) (by rw [ep]; exact h13) (by rw [ep]; exact h14) (by rw [ep]; exact hr)
        rw [show (((k + 1 : Nat)) : Int) = (k : Int) + 1 by omega] at e
        refine ⟨Z', w2, w3, w4, w5, ?_, f, u, g1, g2⟩
        rw [hne] at hcl
        rw [q_27_39]
        simp (disch := first | assumption | decide +kernel | omega | (split <;> omega)) only [q_27_0, q_27_1, q_27_4, q_27_7, q_27_8, q_27_9, q_27_11, q_27_12, q_27_15, q_27_18, q_27_19, q_27_22, q_27_23, q_27_25, q_27_26, q_27_27, q_27_30, q_27_31, q_27_33, q_27_34, q_27_36, q_27_37, q_27_38, q_27_40, q_27_41, q_27_44, q_27_47, q_27_48, q_27_51, q_27_52, q_27_53, q_27_56, q_27_58, q_27_60, q_27_61, q_27_64, q_27_65, q_27_68, q_27_69, q_27_70, q_27_71, q_27_74, q_27_77, q_27_79, q_27_81, q_27_83, q_27_85, q_27_88, q_27_89, q_27_92, q_27_93, q_27_94, q_27_95, q_27_96, q_27_99, q_27_100, q_27_102, q_27_103, q_27_105, q_27_106, q_27_109, q_27_112, q_27_115, q_27_118, q_27_119, q_27_120, q_27_123, pm_some, Option.toList_some, Option.toList_none, List.cons_append, List.nil_append, pm_i0, pm_i1, Nat.reduceAdd, Nat.reduceMul, Int.toNat_natCast, Int.toNat_zero, not_true_eq_false, not_false_eq_true, and_self, true_and, and_true, ↓reduceIte, Int.reduceEq, Int.reduceLT, Int.reduceLE, Int.reduceNeg, Bool.false_eq_true, z4, hlt, hcr, hcl, hg]
        exact e
      · have ep : cm_pick o Z0 t (k + 1) = ((k : Int), cm_lk Z0 (o + 9 + 6 + 5 * k) t) := by rw [cm_pick_succ, if_pos ⟨hne, hstep.mp hg⟩]
        obtain ⟨Z', w2, w3, w4, w5, e, f, u, g1, g2⟩ := ih (k + 1) (pm_up (pm_up Z (o + 13) t (k : Int)) (o + 14) t (cm_lk Z0 (o + 9 + 6 + 5 * k) t)) (cm_rk Z0 (o + 9 + 6 + 5 * k)) (.int (pm_J (cm_rk Z0 (o + 9 + 6 + 5 * k)))) (.int (pm_J (cm_lk Z0 (o + 9 + 6 + 5 * k) t))) (fun b h1 h2 => by rw [pm_up_row h2, pm_up_row h1, hf b h1 h2]) (by omega) (by rw [ep, pm_up_ne (by omega), pm_up_same]) (by rw [ep, pm_up_same]) (by rw [ep]; show _ = if (k : Int) < 0 then _ else _; rw [if_neg (by omega), Int.toNat_natCast])
        rw [show (((k + 1 : Nat)) : Int) = (k : Int) + 1 by omega] at e
        refine ⟨Z', w2, w3, w4, w5, ?_, fun b h1 h2 => by rw [f b h1 h2, pm_up_row h2, pm_up_row h1], fun v hv => ?_, g1, g2⟩
        · rw [q_27_39]
          simp (disch := first | assumption | decide +kernel | omega | (split <;> omega)) only [q_27_0, q_27_1, q_27_4, q_27_7, q_27_8, q_27_9, q_27_11, q_27_12, q_27_15, q_27_18, q_27_19, q_27_22, q_27_23, q_27_25, q_27_26, q_27_27, q_27_30, q_27_31, q_27_33, q_27_34, q_27_36, q_27_37, q_27_38, q_27_40, q_27_41, q_27_44, q_27_47, q_27_48, q_27_51, q_27_52, q_27_53, q_27_56, q_27_58, q_27_60, q_27_61, q_27_64, q_27_65, q_27_68, q_27_69, q_27_70, q_27_71, q_27_74, q_27_77, q_27_79, q_27_81, q_27_83, q_27_85, q_27_88, q_27_89, q_27_92, q_27_93, q_27_94, q_27_95, q_27_96, q_27_99, q_27_100, q_27_102, q_27_103, q_27_105, q_27_106, q_27_109, q_27_112, q_27_115, q_27_118, q_27_119, q_27_120, q_27_123, pm_some, Option.toList_some, Option.toList_none, List.cons_append, List.nil_append, pm_i0, pm_i1, Nat.reduceAdd, Nat.reduceMul, Int.toNat_natCast, Int.toNat_zero, not_true_eq_false, not_false_eq_true, and_self, true_and, and_true, ↓reduceIte, Int.reduceEq, Int.reduceLT, Int.reduceLE, Int.reduceNeg, Bool.false_eq_true, z4, hlt, hcr, hcl, hg, hne]
          exact e
        · rw [(u v hv).1, (u v hv).2, pm_up_ne (by omega), pm_up_ne (by omega), pm_up_ne (by omega), pm_up_ne (by omega)]
          exact ⟨rfl, rfl⟩
    · have ep : cm_pick o Z0 t (k + 1) = cm_pick o Z0 t k := by rw [cm_pick_succ, if_neg (fun q => hg (hstep.mpr q.2))]
      obtain ⟨Z', w2, w3, w4, w5, e, f, u, g1, g2⟩ := ih (k + 1) Z r (.int (pm_J (cm_rk Z0 (o + 9 + 6 + 5 * k)))) (.int (pm_J (-6))) hf (by omega) (by rw [ep]; exact h13) (by rw [ep]; exact h14) (by rw [ep]; exact hr)
      rw [show (((k + 1 : Nat)) : Int) = (k : Int) + 1 by omega] at e
      refine ⟨Z', w2, w3, w4, w5, ?_, f, u, g1, g2⟩
      rw [q_27_39]
      simp (disch := first | assumption | decide +kernel | omega | (split <;> omega)) only [q_27_0, q_27_1, q_27_4, q_27_7, q_27_8, q_27_9, q_27_11, q_27_12, q_27_15, q_27_18, q_27_19, q_27_22, q_27_23, q_27_25, q_27_26, q_27_27, q_27_30, q_27_31, q_27_33, q_27_34, q_27_36, q_27_37, q_27_38, q_27_40, q_27_41, q_27_44, q_27_47, q_27_48, q_27_51, q_27_52, q_27_53, q_27_56, q_27_58, q_27_60, q_27_61, q_27_64, q_27_65, q_27_68, q_27_69, q_27_70, q_27_71, q_27_74, q_27_77, q_27_79, q_27_81, q_27_83, q_27_85, q_27_88, q_27_89, q_27_92, q_27_93, q_27_94, q_27_95, q_27_96, q_27_99, q_27_100, q_27_102, q_27_103, q_27_105, q_27_106, q_27_109, q_27_112, q_27_115, q_27_118, q_27_119, q_27_120, q_27_123, pm_some, Option.toList_some, Option.toList_none, List.cons_append, List.nil_append, pm_i0, pm_i1, Nat.reduceAdd, Nat.reduceMul, Int.toNat_natCast, Int.toNat_zero, not_true_eq_false, not_false_eq_true, and_self, true_and, and_true, ↓reduceIte, Int.reduceEq, Int.reduceLT, Int.reduceLE, Int.reduceNeg, Bool.false_eq_true, z4, hlt, hcr, hg]
      exact e
/-- the loop over the towers -/
theorem l_choose1 {o : Nat} (ho : pm_isL o) (L : Nat) (W : Nat → Nat) (Z0 : Nat → Nat → Int) (h20 : 0 ≤ Z0 o 2) (h2 : Z0 o 2 ≤ 8) (hc0 : 0 ≤ Z0 o 4) (hc : Z0 o 4 ≤ 10) (hok : ∀ i : Nat, (i : Int) < Z0 o 4 → cm_ok Z0 (o + 9 + 6 + 5 * i)) : ∀ (n t : Nat) (Z : Nat → Nat → Int) (v2 v3 v4 v5 : Value), (∀ b, b ≠ o + 13 → b ≠ o + 14 → Z b = Z0 b) → (t : Int) + n = Z0 o 2 → (∀ u, u < t → Z (o + 13) u = (cm_pick o Z0 u (Z0 o 4).toNat).1 ∧ Z (o + 14) u = (cm_pick o Z0 u (Z0 o 4).toNat).2) → ∃ Z', pm_D (27, 10, [.ref o, .int (pm_J (t : Int)), v2, v3, v4, v5], [], pm_hp L Z W) = some (none, pm_hp L (pm_up Z' o 11 1) W) ∧ (∀ b, b ≠ o + 13 → b ≠ o + 14 → Z' b = Z0 b) ∧ (∀ u : Nat, Z0 o 2 ≤ (u : Int) → Z' (o + 13) u = Z (o + 13) u ∧ Z' (o + 14) u = Z (o + 14) u) ∧ (∀ u : Nat, (u : Int) < Z0 o 2 → Z' (o + 13) u = (cm_pick o Z0 u (Z0 o 4).toNat).1 ∧ Z' (o + 14) u = (cm_pick o Z0 u (Z0 o 4).toNat).2) := by
  obtain ⟨k1, k2, k3, k4, k5, k6, k7, k8, k9, k10, k11, k12, k13, k14, k15⟩ := pm_kdL ho
  intro n
  induction n with
  | zero =>
    intro t Z v2 v3 v4 v5 hf hk hu
    have z2 : Z o 2 = Z0 o 2 := by rw [hf o (by omega) (by omega)]
    have hlt : ¬ (t : Int) < Z0 o 2 := by omega
    refine ⟨Z, ?_, hf, fun _ _ => ⟨rfl, rfl⟩, fun u h => hu u (by omega)⟩
    rw [q_27_10]
    simp (disch := first | assumption | decide +kernel | omega | (split <;> omega)) only [q_27_0, q_27_1, q_27_4, q_27_7, q_27_8, q_27_9, q_27_11, q_27_12, q_27_15, q_27_18, q_27_19, q_27_22, q_27_23, q_27_25, q_27_26, q_27_27, q_27_30, q_27_31, q_27_33, q_27_34, q_27_36, q_27_37, q_27_38, q_27_40, q_27_41, q_27_44, q_27_47, q_27_48, q_27_51, q_27_52, q_27_53, q_27_56, q_27_58, q_27_60, q_27_61, q_27_64, q_27_65, q_27_68, q_27_69, q_27_70, q_27_71, q_27_74, q_27_77, q_27_79, q_27_81, q_27_83, q_27_85, q_27_88, q_27_89, q_27_92, q_27_93, q_27_94, q_27_95, q_27_96, q_27_99, q_27_100, q_27_102, q_27_103, q_27_105, q_27_106, q_27_109, q_27_112, q_27_115, q_27_118, q_27_119, q_27_120, q_27_123, pm_some, Option.toList_some, Option.toList_none, List.cons_append, List.nil_append, pm_i0, pm_i1, Nat.reduceAdd, Nat.reduceMul, Int.toNat_natCast, Int.toNat_zero, not_true_eq_false, not_false_eq_true, and_self, true_and, and_true, ↓reduceIte, Int.reduceEq, Int.reduceLT, Int.reduceLE, Int.reduceNeg, Bool.false_eq_true, z2, hlt]
  | succ n ih =>
    intro t Z v2 v3 v4 v5 hf hk hu
    have z2 : Z o 2 = Z0 o 2 := by rw [hf o (by omega) (by omega)]
    have hlt : (t : Int) < Z0 o 2 := by omega
    have hf1 : ∀ b, b ≠ o + 13 → b ≠ o + 14 → pm_up (pm_up Z (o + 13) t (-6)) (o + 14) t (-6) b = Z0 b := fun b h1 h2 => by rw [pm_up_row h2, pm_up_row h1, hf b h1 h2]
    obtain ⟨Z1, w2, w3, w4, w5, e1, f1, u1, g1, g2⟩ := l_choose2 ho t (by omega) L W Z0 hc hok (Z0 o 4).toNat 0 (pm_up (pm_up Z (o + 13) t (-6)) (o + 14) t (-6)) (-6) v4 v5 hf1 (by omega) (by rw [pm_up_ne (by omega), pm_up_same]; rfl) (by rw [pm_up_same]; rfl) rfl
    rw [show (((0 : Nat)) : Int) = 0 from rfl] at e1
    obtain ⟨Z2, e2, f2, f2', g3⟩ := ih (t + 1) Z1 w2 w3 w4 w5 (fun b h1 h2 => by rw [f1 b h1 h2, hf1 b h1 h2]) (by omega) (fun u h => by
      by_cases hut : u = t
      · subst hut
        exact ⟨g1, g2⟩
      · rw [(u1 u hut).1, (u1 u hut).2, pm_up_ne (by omega), pm_up_ne (by omega), pm_up_ne (by omega), pm_up_ne (by omega)]
        exact hu u (by omega))
    rw [show (((t + 1 : Nat)) : Int) = (t : Int) + 1 by omega] at e2
    refine ⟨Z2, ?_, f2, fun u hu' => ?_, g3⟩
    rotate_left
    · rw [(f2' u hu').1, (f2' u hu').2, (u1 u (by omega)).1, (u1 u (by omega)).2, pm_up_ne (by omega), pm_up_ne (by omega), pm_up_ne (by omega), pm_up_ne (by omega)]
      exact ⟨rfl, rfl⟩
    rw [q_27_10]
    simp (disch := first | assumption | decide +kernel | omega | (split <;> omega)) only [q_27_0, q_27_1, q_27_4, q_27_7, q_27_8, q_27_9, q_27_11, q_27_12, q_27_15, q_27_18, q_27_19, q_27_22, q_27_23, q_27_25, q_27_26, q_27_27, q_27_30, q_27_31, q_27_33, q_27_34, q_27_36, q_27_37, q_27_38, q_27_40, q_27_41, q_27_44, q_27_47, q_27_48, q_27_51, q_27_52, q_27_53, q_27_56, q_27_58, q_27_60, q_27_61, q_27_64, q_27_65, q_27_68, q_27_69, q_27_70, q_27_71, q_27_74, q_27_77, q_27_79, q_27_81, q_27_83, q_27_85, q_27_88, q_27_89, q_27_92, q_27_93, q_27_94, q_27_95, q_27_96, q_27_99, q_27_100, q_27_102, q_27_103, q_27_105, q_27_106, q_27_109, q_27_112, q_27_115, q_27_118, q_27_119, q_27_120, q_27_123, pm_some, Option.toList_some, Option.toList_none, List.cons_append, List.nil_append, pm_i0, pm_i1, Nat.reduceAdd, Nat.reduceMul, Int.toNat_natCast, Int.toNat_zero, not_true_eq_false, not_false_eq_true, and_self, true_and, and_true, ↓reduceIte, Int.reduceEq, Int.reduceLT, Int.reduceLE, Int.reduceNeg, Bool.false_eq_true, z2, hlt]
    rw [e1]
    exact e2
theorem c_chooseTasks {o : Nat} (ho : pm_isL o) (L : Nat) (Z : Nat → Nat → Int) (W : Nat → Nat) (h20 : 0 ≤ Z o 2) (h2 : Z o 2 ≤ 8) (hc0 : 0 ≤ Z o 4) (hc : Z o 4 ≤ 10) (h11 : 0 ≤ Z o 11) (h11' : Z o 11 ≤ 1) (hok : ∀ i : Nat, (i : Int) < Z o 4 → cm_ok Z (o + 9 + 6 + 5 * i)) (ht : Z o 11 = 1 → ∀ u : Nat, (u : Int) < Z o 2 → Z (o + 13) u = (cm_pick o Z u (Z o 4).toNat).1 ∧ Z (o + 14) u = (cm_pick o Z u (Z o 4).toNat).2) : ∃ Z', pm_D (27, 0, [.ref o, .null, .null, .null, .null, .null], [], pm_hp L Z W) = some (none, pm_hp L Z' W) ∧ (∀ b, b ≠ o → b ≠ o + 13 → b ≠ o + 14 → Z' b = Z b) ∧ (∀ q, q ≠ 11 → Z' o q = Z o q) ∧ Z' o 11 = 1 ∧ (∀ u : Nat, Z o 2 ≤ (u : Int) → Z' (o + 13) u = Z (o + 13) u ∧ Z' (o + 14) u = Z (o + 14) u) ∧ (∀ u : Nat, (u : Int) < Z o 2 → Z' (o + 13) u = (cm_pick o Z u (Z o 4).toNat).1 ∧ Z' (o + 14) u = (cm_pick o Z u (Z o 4).toNat).2) := by
  obtain ⟨k1, k2, k3, k4, k5, k6, k7, k8, k9, k10, k11, k12, k13, k14, k15⟩ := pm_kdL ho
  rcases (show Z o 11 = 0 ∨ Z o 11 = 1 by omega) with h | h
  · obtain ⟨Z1, e, f, f', g⟩ := l_choose1 ho L W Z h20 h2 hc0 hc hok (Z o 2).toNat 0 Z .null .null .null .null (fun _ _ _ => rfl) (by omega) (fun u h => absurd h (by omega))
    rw [show (((0 : Nat)) : Int) = 0 from rfl] at e
    refine ⟨pm_up Z1 o 11 1, ?_, fun b h1 h2 h3 => by rw [pm_up_row h1, f b h2 h3], fun q hq => by rw [pm_up_ne (by omega), f o (by omega) (by omega)], pm_up_same _ _ _ _, fun u hu => by rw [pm_up_row (by omega), pm_up_row (by omega)]; exact f' u hu, fun u hu => by rw [pm_up_row (by omega), pm_up_row (by omega)]; exact g u hu⟩
    simp (disch := first | assumption | decide +kernel | omega | (split <;> omega)) only [q_27_0, q_27_1, q_27_4, q_27_7, q_27_8, q_27_9, q_27_11, q_27_12, q_27_15, q_27_18, q_27_19, q_27_22, q_27_23, q_27_25, q_27_26, q_27_27, q_27_30, q_27_31, q_27_33, q_27_34, q_27_36, q_27_37, q_27_38, q_27_40, q_27_41, q_27_44, q_27_47, q_27_48, q_27_51, q_27_52, q_27_53, q_27_56, q_27_58, q_27_60, q_27_61, q_27_64, q_27_65, q_27_68, q_27_69, q_27_70, q_27_71, q_27_74, q_27_77, q_27_79, q_27_81, q_27_83, q_27_85, q_27_88, q_27_89, q_27_92, q_27_93, q_27_94, q_27_95, q_27_96, q_27_99, q_27_100, q_27_102, q_27_103, q_27_105, q_27_106, q_27_109, q_27_112, q_27_115, q_27_118, q_27_119, q_27_120, q_27_123, pm_some, Option.toList_some, Option.toList_none, List.cons_append, List.nil_append, pm_i0, pm_i1, Nat.reduceAdd, Nat.reduceMul, Int.toNat_natCast, Int.toNat_zero, not_true_eq_false, not_false_eq_true, and_self, true_and, and_true, ↓reduceIte, Int.reduceEq, Int.reduceLT, Int.reduceLE, Int.reduceNeg, Bool.false_eq_true, h]
    exact e
  · refine ⟨Z, ?_, fun _ _ _ _ => rfl, fun _ _ => rfl, h, fun _ _ => ⟨rfl, rfl⟩, ht h⟩
    simp (disch := first | assumption | decide +kernel | omega | (split <;> omega)) only [q_27_0, q_27_1, q_27_4, q_27_7, q_27_8, q_27_9, q_27_11, q_27_12, q_27_15, q_27_18, q_27_19, q_27_22, q_27_23, q_27_25, q_27_26, q_27_27, q_27_30, q_27_31, q_27_33, q_27_34, q_27_36, q_27_37, q_27_38, q_27_40, q_27_41, q_27_44, q_27_47, q_27_48, q_27_51, q_27_52, q_27_53, q_27_56, q_27_58, q_27_60, q_27_61, q_27_64, q_27_65, q_27_68, q_27_69, q_27_70, q_27_71, q_27_74, q_27_77, q_27_79, q_27_81, q_27_83, q_27_85, q_27_88, q_27_89, q_27_92, q_27_93, q_27_94, q_27_95, q_27_96, q_27_99, q_27_100, q_27_102, q_27_103, q_27_105, q_27_106, q_27_109, q_27_112, q_27_115, q_27_118, q_27_119, q_27_120, q_27_123, pm_some, Option.toList_some, Option.toList_none, List.cons_append, List.nil_append, pm_i0, pm_i1, Nat.reduceAdd, Nat.reduceMul, Int.toNat_natCast, Int.toNat_zero, not_true_eq_false, not_false_eq_true, and_self, true_and, and_true, ↓reduceIte, Int.reduceEq, Int.reduceLT, Int.reduceLE, Int.reduceNeg, Bool.false_eq_true, h]
