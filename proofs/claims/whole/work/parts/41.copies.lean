/-! calls that look at a copy -/
theorem c_copyError (a b : Int) (L : Nat) (Z : Nat → Nat → Int) (W : Nat → Nat) (ha : pm_r a) (hb : pm_r b) (h0 : 0 ≤ Z 46 4) (h1 : Z 46 4 ≤ 10) (h2 : 0 ≤ Z 46 2) (h3 : Z 46 2 ≤ 8) : pm_D (104, 0, [.ref 0, .int (pm_J a), .int (pm_J b)], [], pm_hp L Z W) = some (some (.int (pm_J (if 0 ≤ a ∧ a < Z 46 4 then (if 0 ≤ b ∧ b < Z 46 2 then 0 else -1) else -2))), pm_hp L Z W) := by
  simp (disch := first | assumption | decide +kernel | omega | (split <;> omega)) only [q_104_0, q_104_1, q_104_4, q_104_5, q_104_8, q_104_11, q_104_13, q_104_14, q_104_15, q_104_18, q_104_19, q_104_22, q_104_25, q_104_26, q_104_29, q_104_30, c_hasMessage, c_hasTower, pm_some, Option.toList_some, Option.toList_none, List.cons_append, List.nil_append, pm_i0, pm_i1, Nat.reduceAdd, Nat.reduceMul, Int.toNat_natCast]
  by_cases h : 0 ≤ a ∧ a < Z 46 4
  · by_cases h2 : 0 ≤ b ∧ b < Z 46 2
    · simp only [h, h2, not_true_eq_false, not_false_eq_true, and_self, true_and, and_true, ↓reduceIte, Int.reduceEq, Int.reduceLT, Int.reduceLE, Int.reduceNeg]
    · simp only [h, h2, not_true_eq_false, not_false_eq_true, and_self, true_and, and_true, ↓reduceIte, Int.reduceEq, Int.reduceLT, Int.reduceLE, Int.reduceNeg]
  · simp only [h, not_true_eq_false, not_false_eq_true, and_self, true_and, and_true, ↓reduceIte, Int.reduceEq, Int.reduceLT, Int.reduceLE, Int.reduceNeg]
theorem c_R_low (a : Int) (L : Nat) (Z : Nat → Nat → Int) (W : Nat → Nat) (h0 : 0 ≤ a) (h1 : a < 10) (h2 : pm_r (Z 205 a.toNat)) (h3 : pm_r (Z 206 a.toNat)) : pm_D (137, 0, [.ref 190, .int (pm_J a)], [], pm_hp L Z W) = some (some (.int (pm_J (if Z 205 a.toNat < Z 206 a.toNat then Z 205 a.toNat else Z 206 a.toNat))), pm_hp L Z W) := by
  simp (disch := first | assumption | decide +kernel | omega | (split <;> omega)) only [q_137_0, q_137_1, q_137_4, q_137_5, q_137_6, q_137_7, q_137_10, q_137_11, q_137_12, q_137_15, q_137_16, q_137_19, q_137_20, q_137_21, q_137_24, q_137_25, q_137_28, q_137_29, q_137_30, pm_some, Option.toList_some, Option.toList_none, List.cons_append, List.nil_append, pm_i0, pm_i1, Nat.reduceAdd, Nat.reduceMul, Int.toNat_natCast]
  split
  · rfl
  · rfl
theorem c_R_high (a : Int) (L : Nat) (Z : Nat → Nat → Int) (W : Nat → Nat) (h0 : 0 ≤ a) (h1 : a < 10) (h2 : pm_r (Z 205 a.toNat)) (h3 : pm_r (Z 206 a.toNat)) : pm_D (138, 0, [.ref 190, .int (pm_J a)], [], pm_hp L Z W) = some (some (.int (pm_J (if Z 205 a.toNat < Z 206 a.toNat then Z 206 a.toNat else Z 205 a.toNat))), pm_hp L Z W) := by
  simp (disch := first | assumption | decide +kernel | omega | (split <;> omega)) only [q_138_0, q_138_1, q_138_4, q_138_5, q_138_6, q_138_7, q_138_10, q_138_11, q_138_12, q_138_15, q_138_16, q_138_19, q_138_20, q_138_21, q_138_24, q_138_25, q_138_28, q_138_29, q_138_30, pm_some, Option.toList_some, Option.toList_none, List.cons_append, List.nil_append, pm_i0, pm_i1, Nat.reduceAdd, Nat.reduceMul, Int.toNat_natCast]
  split
  · rfl
  · rfl
theorem c_R_goesUp (a : Int) (L : Nat) (Z : Nat → Nat → Int) (W : Nat → Nat) (h0 : 0 ≤ a) (h1 : a < 10) (h2 : pm_r (Z 205 a.toNat)) (h3 : pm_r (Z 206 a.toNat)) : pm_D (148, 0, [.ref 190, .int (pm_J a)], [], pm_hp L Z W) = some (some (.int (pm_J (if Z 205 a.toNat < Z 206 a.toNat then 1 else 0))), pm_hp L Z W) := by
  simp (disch := first | assumption | decide +kernel | omega | (split <;> omega)) only [q_148_0, q_148_1, q_148_4, q_148_5, q_148_6, q_148_7, q_148_10, q_148_11, q_148_12, q_148_15, q_148_16, q_148_19, q_148_20, pm_some, Option.toList_some, Option.toList_none, List.cons_append, List.nil_append, pm_i0, pm_i1, Nat.reduceAdd, Nat.reduceMul, Int.toNat_natCast]
  split
  · rfl
  · rfl
theorem c_R_isOnWay (a t : Int) (L : Nat) (Z : Nat → Nat → Int) (W : Nat → Nat) (ht : pm_r t) (h0 : 0 ≤ a) (h1 : a < 10) (h2 : 0 ≤ Z 205 a.toNat) (h3 : 0 ≤ Z 206 a.toNat) (h4 : Z 205 a.toNat < 8) (h5 : Z 206 a.toNat < 8) : pm_D (139, 0, [.ref 190, .int (pm_J a), .int (pm_J t)], [], pm_hp L Z W) = some (some (.int (pm_J (if (if Z 205 a.toNat < Z 206 a.toNat then Z 205 a.toNat else Z 206 a.toNat) ≤ t ∧ t ≤ (if Z 205 a.toNat < Z 206 a.toNat then Z 206 a.toNat else Z 205 a.toNat) then 1 else 0))), pm_hp L Z W) := by
  simp (disch := first | assumption | decide +kernel | omega | (split <;> omega)) only [q_139_0, q_139_1, q_139_2, q_139_3, q_139_6, q_139_7, q_139_8, q_139_11, q_139_14, c_R_low, c_R_high, c_in, pm_some, Option.toList_some, Option.toList_none, List.cons_append, List.nil_append, pm_i0, pm_i1, Nat.reduceAdd, Nat.reduceMul, Int.toNat_natCast]
theorem c_R_isLinkOnWay (a t : Int) (L : Nat) (Z : Nat → Nat → Int) (W : Nat → Nat) (ht : pm_r t) (h0 : 0 ≤ a) (h1 : a < 10) (h2 : 0 ≤ Z 205 a.toNat) (h3 : 0 ≤ Z 206 a.toNat) (h4 : Z 205 a.toNat < 8) (h5 : Z 206 a.toNat < 8) : pm_D (140, 0, [.ref 190, .int (pm_J a), .int (pm_J t)], [], pm_hp L Z W) = some (some (.int (pm_J (if (if Z 205 a.toNat < Z 206 a.toNat then Z 205 a.toNat else Z 206 a.toNat) ≤ t ∧ t < (if Z 205 a.toNat < Z 206 a.toNat then Z 206 a.toNat else Z 205 a.toNat) then 1 else 0))), pm_hp L Z W) := by
  simp (disch := first | assumption | decide +kernel | omega | (split <;> omega)) only [q_140_0, q_140_1, q_140_2, q_140_3, q_140_6, q_140_7, q_140_8, q_140_11, q_140_12, q_140_13, q_140_16, c_R_low, c_R_high, c_in, pm_some, Option.toList_some, Option.toList_none, List.cons_append, List.nil_append, pm_i0, pm_i1, Nat.reduceAdd, Nat.reduceMul, Int.toNat_natCast]
  have e : ∀ x : Int, (t ≤ x - 1) = (t < x) := fun x => by simp only [eq_iff_iff]; omega
  simp only [e]
theorem c_signAt (a : Nat) (t k : Int) (L : Nat) (Z : Nat → Nat → Int) (W : Nat → Nat) (ha : pm_kd a = 4) (q1 : pm_kd (a + 1) = 11) (q2 : pm_ln (a + 1) = 240) (q3 : pm_kd (a + 2) = 11) (q4 : pm_ln (a + 2) = 8) (ht : pm_r t) (hk : pm_r k) (h1 : 0 ≤ Z a 3) (h2 : Z a 4 < 8) (h3 : Z a 3 ≤ Z a 4) (hlen : ∀ t : Nat, Z a 3 ≤ t → (t : Int) ≤ Z a 4 → 0 ≤ Z (a + 2) t ∧ Z (a + 2) t ≤ 30) : pm_D (50, 0, [.ref a, .int (pm_J t), .int (pm_J k)], [], pm_hp L Z W) = some (some (.int (pm_J (if (Z a 3 ≤ t ∧ t ≤ Z a 4) ∧ 0 ≤ k ∧ k < Z (a + 2) t.toNat then Z (a + 1) (t * 30 + k).toNat else -6))), pm_hp L Z W) := by
  by_cases h : Z a 3 ≤ t ∧ t ≤ Z a 4
  · have hl := hlen t.toNat (by omega) (by omega)
    by_cases hk0 : k < 0
    · have : ¬ (0 ≤ k ∧ k < Z (a + 2) t.toNat) := by omega
      simp (disch := first | assumption | decide +kernel | omega | (split <;> omega)) only [q_50_0, q_50_1, q_50_2, q_50_5, q_50_8, q_50_9, q_50_12, q_50_13, q_50_14, q_50_17, q_50_18, q_50_19, q_50_22, q_50_24, q_50_25, q_50_26, q_50_29, q_50_30, q_50_32, q_50_33, q_50_34, q_50_35, q_50_36, c_passesTower, pm_some, Option.toList_some, Option.toList_none, List.cons_append, List.nil_append, pm_i0, pm_i1, Nat.reduceAdd, Nat.reduceMul, Int.toNat_natCast, h, hk0, this, not_true_eq_false, not_false_eq_true, and_self, true_and, and_true, ↓reduceIte, Int.reduceEq, Int.reduceLT, Int.reduceLE, Int.reduceNeg, and_false]
    · by_cases hk1 : k < Z (a + 2) t.toNat
      · have : 0 ≤ k ∧ k < Z (a + 2) t.toNat := by omega
        simp (disch := first | assumption | decide +kernel | omega | (split <;> omega)) only [q_50_0, q_50_1, q_50_2, q_50_5, q_50_8, q_50_9, q_50_12, q_50_13, q_50_14, q_50_17, q_50_18, q_50_19, q_50_22, q_50_24, q_50_25, q_50_26, q_50_29, q_50_30, q_50_32, q_50_33, q_50_34, q_50_35, q_50_36, c_passesTower, pm_some, Option.toList_some, Option.toList_none, List.cons_append, List.nil_append, pm_i0, pm_i1, Nat.reduceAdd, Nat.reduceMul, Int.toNat_natCast, h, hk0, hk1, this, not_true_eq_false, not_false_eq_true, and_self, true_and, and_true, ↓reduceIte, Int.reduceEq, Int.reduceLT, Int.reduceLE, Int.reduceNeg, and_false]
      · have : ¬ (0 ≤ k ∧ k < Z (a + 2) t.toNat) := by omega
        simp (disch := first | assumption | decide +kernel | omega | (split <;> omega)) only [q_50_0, q_50_1, q_50_2, q_50_5, q_50_8, q_50_9, q_50_12, q_50_13, q_50_14, q_50_17, q_50_18, q_50_19, q_50_22, q_50_24, q_50_25, q_50_26, q_50_29, q_50_30, q_50_32, q_50_33, q_50_34, q_50_35, q_50_36, c_passesTower, pm_some, Option.toList_some, Option.toList_none, List.cons_append, List.nil_append, pm_i0, pm_i1, Nat.reduceAdd, Nat.reduceMul, Int.toNat_natCast, h, hk0, hk1, this, not_true_eq_false, not_false_eq_true, and_self, true_and, and_true, ↓reduceIte, Int.reduceEq, Int.reduceLT, Int.reduceLE, Int.reduceNeg, and_false]
  · simp (disch := first | assumption | decide +kernel | omega | (split <;> omega)) only [q_50_0, q_50_1, q_50_2, q_50_5, q_50_8, q_50_9, q_50_12, q_50_13, q_50_14, q_50_17, q_50_18, q_50_19, q_50_22, q_50_24, q_50_25, q_50_26, q_50_29, q_50_30, q_50_32, q_50_33, q_50_34, q_50_35, q_50_36, c_passesTower, pm_some, Option.toList_some, Option.toList_none, List.cons_append, List.nil_append, pm_i0, pm_i1, Nat.reduceAdd, Nat.reduceMul, Int.toNat_natCast, h, not_true_eq_false, not_false_eq_true, and_self, true_and, and_true, ↓reduceIte, Int.reduceEq, Int.reduceLT, Int.reduceLE, Int.reduceNeg, false_and]

theorem op_copied : Op_copied := by
  intro T L Z W hI hT0 hT a b ha hb
  obtain ⟨⟨⟨a1, a2, a3, a4, a5, a6, a7, a8, a9, a10, a11⟩, ⟨⟨w1, w2, w3, w4, w5, w6⟩, ⟨w7, w8, w9⟩, w10⟩, ⟨⟨f1, f2, f3⟩, f4⟩, hms, hun, hco, hsh, htk⟩, htx, hbk, hon⟩ := id hI
  have a8' : 0 ≤ Z 46 4 := by omega
  have a9' : Z 46 4 ≤ 10 := by omega
  have a2' : 0 ≤ Z 46 2 := by omega
  have a3' : Z 46 2 ≤ 8 := by omega
  have a2'' : 0 ≤ Z 190 0 := by omega
  by_cases hm : 0 ≤ a ∧ a < Z 190 22
  · skip
    have hi : ((a.toNat : Nat) : Int) = a := by omega
    obtain ⟨k1, k2, k3, k4, k5, k6, k7, k8, k9⟩ := kM46 (n := a.toNat) (by omega)
    have hmm : lm (61 + 5 * a.toNat) T Z a.toNat := hms a.toNat (by omega)
    obtain ⟨⟨⟨s1, s2, s3, s4, s5, s6, s7⟩, ⟨s8, s9, s10⟩, s11, s12, s13, s14, s15, s16, s17, s18, s19⟩, ⟨d1, d2, d3, d4, d5, d6, d7, d8, d9⟩, ml, mp, mc, mo⟩ := hmm
    have e1 : (31 + 8 * a + Z 205 a.toNat).toNat = 31 + 8 * a.toNat + (Z 205 a.toNat).toNat := by omega
    have e2 : (1 + a).toNat = 1 + a.toNat := by omega
    have e3 : (11 + a).toNat = 11 + a.toNat := by omega
    have e4 : (21 + a).toNat = 21 + a.toNat := by omega
    by_cases ht : 0 ≤ b ∧ b < Z 190 0
    · by_cases hw : (if Z 205 a.toNat < Z 206 a.toNat then Z 205 a.toNat else Z 206 a.toNat) ≤ b ∧ b ≤ (if Z 205 a.toNat < Z 206 a.toNat then Z 206 a.toNat else Z 205 a.toNat)
      · have hl := ml b.toNat (by rw [s9]; omega) (by rw [s10]; omega)
        have e5 : (31 + 8 * a + b).toNat = 31 + 8 * a.toNat + b.toNat := by omega
        have hr3 : pm_r (Z (61 + 5 * a.toNat) 3) := by rw [s9]; split <;> omega
        have hr4 : pm_r (Z (61 + 5 * a.toNat) 4) := by rw [s10]; split <;> omega
        refine Op.same hI (Z (61 + 5 * a.toNat + 2) b.toNat) (by omega) ?_ ?_
        · simp (disch := first | assumption | decide +kernel | omega | (split <;> omega)) only [q_90_0, q_90_1, q_90_2, q_90_3, q_90_6, q_90_7, q_90_8, q_90_11, q_90_12, q_90_13, q_90_14, q_90_17, q_90_20, q_90_21, q_90_22, q_90_24, q_90_26, q_90_27, q_90_30, q_90_33, q_90_35, q_90_38, q_90_39, q_90_40, q_90_43, q_90_45, c_copyError, c_passesTower, pm_some, Option.toList_some, Option.toList_none, List.cons_append, List.nil_append, pm_i0, pm_i1, Nat.reduceAdd, Nat.reduceMul, Int.toNat_natCast, a1, a7, hm, ht, hw, s9, s10, not_true_eq_false, not_false_eq_true, and_self, true_and, and_true, ↓reduceIte, Int.reduceEq, Int.reduceLT, Int.reduceLE, Int.reduceNeg]
        · simp (disch := first | assumption | decide +kernel | omega | (split <;> omega)) only [q_141_0, q_141_1, q_141_2, q_141_5, q_141_8, q_141_10, q_141_11, q_141_12, q_141_13, q_141_16, q_141_19, q_141_20, q_141_21, q_141_22, q_141_23, q_141_24, q_141_27, q_141_30, q_141_31, q_141_32, q_141_33, q_141_36, q_141_39, q_141_41, c_noMessage, c_noTower, c_R_isOnWay, c_R_copyLong, pm_some, Option.toList_some, Option.toList_none, List.cons_append, List.nil_append, pm_i0, pm_i1, Nat.reduceAdd, Nat.reduceMul, Int.toNat_natCast, hm, ht, hw, not_true_eq_false, not_false_eq_true, and_self, true_and, and_true, ↓reduceIte, Int.reduceEq, Int.reduceLT, Int.reduceLE, Int.reduceNeg, e5, ← hl.1]
      · have hr3 : pm_r (Z (61 + 5 * a.toNat) 3) := by rw [s9]; split <;> omega
        have hr4 : pm_r (Z (61 + 5 * a.toNat) 4) := by rw [s10]; split <;> omega
        refine Op.same hI (-6) (by decide) ?_ ?_
        · simp (disch := first | assumption | decide +kernel | omega | (split <;> omega)) only [q_90_0, q_90_1, q_90_2, q_90_3, q_90_6, q_90_7, q_90_8, q_90_11, q_90_12, q_90_13, q_90_14, q_90_17, q_90_20, q_90_21, q_90_22, q_90_24, q_90_26, q_90_27, q_90_30, q_90_33, q_90_35, q_90_38, q_90_39, q_90_40, q_90_43, q_90_45, c_copyError, c_passesTower, pm_some, Option.toList_some, Option.toList_none, List.cons_append, List.nil_append, pm_i0, pm_i1, Nat.reduceAdd, Nat.reduceMul, Int.toNat_natCast, a1, a7, hm, ht, hw, s9, s10, not_true_eq_false, not_false_eq_true, and_self, true_and, and_true, ↓reduceIte, Int.reduceEq, Int.reduceLT, Int.reduceLE, Int.reduceNeg]
        · simp (disch := first | assumption | decide +kernel | omega | (split <;> omega)) only [q_141_0, q_141_1, q_141_2, q_141_5, q_141_8, q_141_10, q_141_11, q_141_12, q_141_13, q_141_16, q_141_19, q_141_20, q_141_21, q_141_22, q_141_23, q_141_24, q_141_27, q_141_30, q_141_31, q_141_32, q_141_33, q_141_36, q_141_39, q_141_41, c_noMessage, c_noTower, c_R_isOnWay, c_R_copyLong, pm_some, Option.toList_some, Option.toList_none, List.cons_append, List.nil_append, pm_i0, pm_i1, Nat.reduceAdd, Nat.reduceMul, Int.toNat_natCast, hm, ht, hw, not_true_eq_false, not_false_eq_true, and_self, true_and, and_true, ↓reduceIte, Int.reduceEq, Int.reduceLT, Int.reduceLE, Int.reduceNeg]
    · refine Op.same hI (-1) (by decide) ?_ ?_
      · simp (disch := first | assumption | decide +kernel | omega | (split <;> omega)) only [q_90_0, q_90_1, q_90_2, q_90_3, q_90_6, q_90_7, q_90_8, q_90_11, q_90_12, q_90_13, q_90_14, q_90_17, q_90_20, q_90_21, q_90_22, q_90_24, q_90_26, q_90_27, q_90_30, q_90_33, q_90_35, q_90_38, q_90_39, q_90_40, q_90_43, q_90_45, c_copyError, pm_some, Option.toList_some, Option.toList_none, List.cons_append, List.nil_append, pm_i0, pm_i1, Nat.reduceAdd, Nat.reduceMul, Int.toNat_natCast, a1, a7, hm, ht, not_true_eq_false, not_false_eq_true, and_self, true_and, and_true, ↓reduceIte, Int.reduceEq, Int.reduceLT, Int.reduceLE, Int.reduceNeg]
      · simp (disch := first | assumption | decide +kernel | omega | (split <;> omega)) only [q_141_0, q_141_1, q_141_2, q_141_5, q_141_8, q_141_10, q_141_11, q_141_12, q_141_13, q_141_16, q_141_19, q_141_20, q_141_21, q_141_22, q_141_23, q_141_24, q_141_27, q_141_30, q_141_31, q_141_32, q_141_33, q_141_36, q_141_39, q_141_41, c_noMessage, c_noTower, pm_some, Option.toList_some, Option.toList_none, List.cons_append, List.nil_append, pm_i0, pm_i1, Nat.reduceAdd, Nat.reduceMul, Int.toNat_natCast, hm, ht, not_true_eq_false, not_false_eq_true, and_self, true_and, and_true, ↓reduceIte, Int.reduceEq, Int.reduceLT, Int.reduceLE, Int.reduceNeg]
  · refine Op.same hI (-2) (by decide) ?_ ?_
    · simp (disch := first | assumption | decide +kernel | omega | (split <;> omega)) only [q_90_0, q_90_1, q_90_2, q_90_3, q_90_6, q_90_7, q_90_8, q_90_11, q_90_12, q_90_13, q_90_14, q_90_17, q_90_20, q_90_21, q_90_22, q_90_24, q_90_26, q_90_27, q_90_30, q_90_33, q_90_35, q_90_38, q_90_39, q_90_40, q_90_43, q_90_45, c_copyError, pm_some, Option.toList_some, Option.toList_none, List.cons_append, List.nil_append, pm_i0, pm_i1, Nat.reduceAdd, Nat.reduceMul, Int.toNat_natCast, a1, a7, hm, not_true_eq_false, not_false_eq_true, and_self, true_and, and_true, ↓reduceIte, Int.reduceEq, Int.reduceLT, Int.reduceLE, Int.reduceNeg]
    · simp (disch := first | assumption | decide +kernel | omega | (split <;> omega)) only [q_141_0, q_141_1, q_141_2, q_141_5, q_141_8, q_141_10, q_141_11, q_141_12, q_141_13, q_141_16, q_141_19, q_141_20, q_141_21, q_141_22, q_141_23, q_141_24, q_141_27, q_141_30, q_141_31, q_141_32, q_141_33, q_141_36, q_141_39, q_141_41, c_noMessage, pm_some, Option.toList_some, Option.toList_none, List.cons_append, List.nil_append, pm_i0, pm_i1, Nat.reduceAdd, Nat.reduceMul, Int.toNat_natCast, hm, not_true_eq_false, not_false_eq_true, and_self, true_and, and_true, ↓reduceIte, Int.reduceEq, Int.reduceLT, Int.reduceLE, Int.reduceNeg]
theorem op_step : Op_step := by
  intro T L Z W hI hT0 hT a b ha hb
  obtain ⟨⟨⟨a1, a2, a3, a4, a5, a6, a7, a8, a9, a10, a11⟩, ⟨⟨w1, w2, w3, w4, w5, w6⟩, ⟨w7, w8, w9⟩, w10⟩, ⟨⟨f1, f2, f3⟩, f4⟩, hms, hun, hco, hsh, htk⟩, htx, hbk, hon⟩ := id hI
  have a8' : 0 ≤ Z 46 4 := by omega
  have a9' : Z 46 4 ≤ 10 := by omega
  have a2' : 0 ≤ Z 46 2 := by omega
  have a3' : Z 46 2 ≤ 8 := by omega
  have a2'' : 0 ≤ Z 190 0 := by omega
  by_cases hm : 0 ≤ a ∧ a < Z 190 22
  · skip
    have hi : ((a.toNat : Nat) : Int) = a := by omega
    obtain ⟨k1, k2, k3, k4, k5, k6, k7, k8, k9⟩ := kM46 (n := a.toNat) (by omega)
    have hmm : lm (61 + 5 * a.toNat) T Z a.toNat := hms a.toNat (by omega)
    obtain ⟨⟨⟨s1, s2, s3, s4, s5, s6, s7⟩, ⟨s8, s9, s10⟩, s11, s12, s13, s14, s15, s16, s17, s18, s19⟩, ⟨d1, d2, d3, d4, d5, d6, d7, d8, d9⟩, ml, mp, mc, mo⟩ := hmm
    have e1 : (31 + 8 * a + Z 205 a.toNat).toNat = 31 + 8 * a.toNat + (Z 205 a.toNat).toNat := by omega
    have e2 : (1 + a).toNat = 1 + a.toNat := by omega
    have e3 : (11 + a).toNat = 11 + a.toNat := by omega
    have e4 : (21 + a).toNat = 21 + a.toNat := by omega
    by_cases ht : 0 ≤ b ∧ b < Z 190 0 - 1
    · have hr3 : pm_r (Z (61 + 5 * a.toNat) 3) := by rw [s9]; split <;> omega
      have hr4 : pm_r (Z (61 + 5 * a.toNat) 4) := by rw [s10]; split <;> omega
      by_cases hw : (if Z 205 a.toNat < Z 206 a.toNat then Z 205 a.toNat else Z 206 a.toNat) ≤ b ∧ b < (if Z 205 a.toNat < Z 206 a.toNat then Z 206 a.toNat else Z 205 a.toNat)
      · have hl := mp b.toNat (by rw [s9]; omega) (by rw [s10]; omega)
        have e5 : (111 + 8 * a + b).toNat = 111 + 8 * a.toNat + b.toNat := by omega
        refine Op.same hI (Z (61 + 5 * a.toNat + 3) b.toNat) (by omega) ?_ ?_
        · simp (disch := first | assumption | decide +kernel | omega | (split <;> omega)) only [q_93_0, q_93_1, q_93_4, q_93_5, q_93_8, q_93_11, q_93_13, q_93_14, q_93_15, q_93_18, q_93_19, q_93_22, q_93_25, q_93_26, q_93_27, q_93_28, q_93_31, q_93_34, q_93_35, q_93_36, q_93_37, q_93_38, q_93_39, q_93_42, q_93_45, q_93_46, q_93_49, q_93_50, q_93_51, q_93_54, q_93_56, c_hasMessage, c_hasLink, c_passesLink, pm_some, Option.toList_some, Option.toList_none, List.cons_append, List.nil_append, pm_i0, pm_i1, Nat.reduceAdd, Nat.reduceMul, Int.toNat_natCast, a1, a7, hm, ht, hw, s9, s10, not_true_eq_false, not_false_eq_true, and_self, true_and, and_true, ↓reduceIte, Int.reduceEq, Int.reduceLT, Int.reduceLE, Int.reduceNeg]
        · simp (disch := first | assumption | decide +kernel | omega | (split <;> omega)) only [q_147_0, q_147_1, q_147_2, q_147_5, q_147_8, q_147_10, q_147_11, q_147_12, q_147_13, q_147_16, q_147_19, q_147_20, q_147_21, q_147_22, q_147_23, q_147_24, q_147_27, q_147_30, q_147_31, q_147_34, q_147_36, q_147_38, q_147_39, q_147_40, q_147_41, q_147_42, q_147_43, q_147_44, q_147_47, q_147_49, c_noMessage, c_noLink, c_R_isLinkOnWay, pm_some, Option.toList_some, Option.toList_none, List.cons_append, List.nil_append, pm_i0, pm_i1, Nat.reduceAdd, Nat.reduceMul, Int.toNat_natCast, hm, ht, hw, not_true_eq_false, not_false_eq_true, and_self, true_and, and_true, ↓reduceIte, Int.reduceEq, Int.reduceLT, Int.reduceLE, Int.reduceNeg, e5, ← hl.1]
      · refine Op.same hI (-6) (by decide) ?_ ?_
        · simp (disch := first | assumption | decide +kernel | omega | (split <;> omega)) only [q_93_0, q_93_1, q_93_4, q_93_5, q_93_8, q_93_11, q_93_13, q_93_14, q_93_15, q_93_18, q_93_19, q_93_22, q_93_25, q_93_26, q_93_27, q_93_28, q_93_31, q_93_34, q_93_35, q_93_36, q_93_37, q_93_38, q_93_39, q_93_42, q_93_45, q_93_46, q_93_49, q_93_50, q_93_51, q_93_54, q_93_56, c_hasMessage, c_hasLink, c_passesLink, pm_some, Option.toList_some, Option.toList_none, List.cons_append, List.nil_append, pm_i0, pm_i1, Nat.reduceAdd, Nat.reduceMul, Int.toNat_natCast, a1, a7, hm, ht, hw, s9, s10, not_true_eq_false, not_false_eq_true, and_self, true_and, and_true, ↓reduceIte, Int.reduceEq, Int.reduceLT, Int.reduceLE, Int.reduceNeg]
        · simp (disch := first | assumption | decide +kernel | omega | (split <;> omega)) only [q_147_0, q_147_1, q_147_2, q_147_5, q_147_8, q_147_10, q_147_11, q_147_12, q_147_13, q_147_16, q_147_19, q_147_20, q_147_21, q_147_22, q_147_23, q_147_24, q_147_27, q_147_30, q_147_31, q_147_34, q_147_36, q_147_38, q_147_39, q_147_40, q_147_41, q_147_42, q_147_43, q_147_44, q_147_47, q_147_49, c_noMessage, c_noLink, c_R_isLinkOnWay, pm_some, Option.toList_some, Option.toList_none, List.cons_append, List.nil_append, pm_i0, pm_i1, Nat.reduceAdd, Nat.reduceMul, Int.toNat_natCast, hm, ht, hw, not_true_eq_false, not_false_eq_true, and_self, true_and, and_true, ↓reduceIte, Int.reduceEq, Int.reduceLT, Int.reduceLE, Int.reduceNeg]
    · refine Op.same hI (-1) (by decide) ?_ ?_
      · simp (disch := first | assumption | decide +kernel | omega | (split <;> omega)) only [q_93_0, q_93_1, q_93_4, q_93_5, q_93_8, q_93_11, q_93_13, q_93_14, q_93_15, q_93_18, q_93_19, q_93_22, q_93_25, q_93_26, q_93_27, q_93_28, q_93_31, q_93_34, q_93_35, q_93_36, q_93_37, q_93_38, q_93_39, q_93_42, q_93_45, q_93_46, q_93_49, q_93_50, q_93_51, q_93_54, q_93_56, c_hasMessage, c_hasLink, pm_some, Option.toList_some, Option.toList_none, List.cons_append, List.nil_append, pm_i0, pm_i1, Nat.reduceAdd, Nat.reduceMul, Int.toNat_natCast, a1, a7, hm, ht, not_true_eq_false, not_false_eq_true, and_self, true_and, and_true, ↓reduceIte, Int.reduceEq, Int.reduceLT, Int.reduceLE, Int.reduceNeg]
      · simp (disch := first | assumption | decide +kernel | omega | (split <;> omega)) only [q_147_0, q_147_1, q_147_2, q_147_5, q_147_8, q_147_10, q_147_11, q_147_12, q_147_13, q_147_16, q_147_19, q_147_20, q_147_21, q_147_22, q_147_23, q_147_24, q_147_27, q_147_30, q_147_31, q_147_34, q_147_36, q_147_38, q_147_39, q_147_40, q_147_41, q_147_42, q_147_43, q_147_44, q_147_47, q_147_49, c_noMessage, c_noLink, pm_some, Option.toList_some, Option.toList_none, List.cons_append, List.nil_append, pm_i0, pm_i1, Nat.reduceAdd, Nat.reduceMul, Int.toNat_natCast, hm, ht, not_true_eq_false, not_false_eq_true, and_self, true_and, and_true, ↓reduceIte, Int.reduceEq, Int.reduceLT, Int.reduceLE, Int.reduceNeg]
  · refine Op.same hI (-2) (by decide) ?_ ?_
    · simp (disch := first | assumption | decide +kernel | omega | (split <;> omega)) only [q_93_0, q_93_1, q_93_4, q_93_5, q_93_8, q_93_11, q_93_13, q_93_14, q_93_15, q_93_18, q_93_19, q_93_22, q_93_25, q_93_26, q_93_27, q_93_28, q_93_31, q_93_34, q_93_35, q_93_36, q_93_37, q_93_38, q_93_39, q_93_42, q_93_45, q_93_46, q_93_49, q_93_50, q_93_51, q_93_54, q_93_56, c_hasMessage, pm_some, Option.toList_some, Option.toList_none, List.cons_append, List.nil_append, pm_i0, pm_i1, Nat.reduceAdd, Nat.reduceMul, Int.toNat_natCast, a1, a7, hm, not_true_eq_false, not_false_eq_true, and_self, true_and, and_true, ↓reduceIte, Int.reduceEq, Int.reduceLT, Int.reduceLE, Int.reduceNeg]
    · simp (disch := first | assumption | decide +kernel | omega | (split <;> omega)) only [q_147_0, q_147_1, q_147_2, q_147_5, q_147_8, q_147_10, q_147_11, q_147_12, q_147_13, q_147_16, q_147_19, q_147_20, q_147_21, q_147_22, q_147_23, q_147_24, q_147_27, q_147_30, q_147_31, q_147_34, q_147_36, q_147_38, q_147_39, q_147_40, q_147_41, q_147_42, q_147_43, q_147_44, q_147_47, q_147_49, c_noMessage, pm_some, Option.toList_some, Option.toList_none, List.cons_append, List.nil_append, pm_i0, pm_i1, Nat.reduceAdd, Nat.reduceMul, Int.toNat_natCast, hm, not_true_eq_false, not_false_eq_true, and_self, true_and, and_true, ↓reduceIte, Int.reduceEq, Int.reduceLT, Int.reduceLE, Int.reduceNeg]
theorem op_sign : Op_sign := by
  intro T L Z W hI hT0 hT a b k ha hb hk
  obtain ⟨⟨⟨a1, a2, a3, a4, a5, a6, a7, a8, a9, a10, a11⟩, ⟨⟨w1, w2, w3, w4, w5, w6⟩, ⟨w7, w8, w9⟩, w10⟩, ⟨⟨f1, f2, f3⟩, f4⟩, hms, hun, hco, hsh, htk⟩, htx, hbk, hon⟩ := id hI
  have a8' : 0 ≤ Z 46 4 := by omega
  have a9' : Z 46 4 ≤ 10 := by omega
  have a2' : 0 ≤ Z 46 2 := by omega
  have a3' : Z 46 2 ≤ 8 := by omega
  have a2'' : 0 ≤ Z 190 0 := by omega
  by_cases hm : 0 ≤ a ∧ a < Z 190 22
  · skip
    have hi : ((a.toNat : Nat) : Int) = a := by omega
    obtain ⟨k1, k2, k3, k4, k5, k6, k7, k8, k9⟩ := kM46 (n := a.toNat) (by omega)
    have hmm : lm (61 + 5 * a.toNat) T Z a.toNat := hms a.toNat (by omega)
    obtain ⟨⟨⟨s1, s2, s3, s4, s5, s6, s7⟩, ⟨s8, s9, s10⟩, s11, s12, s13, s14, s15, s16, s17, s18, s19⟩, ⟨d1, d2, d3, d4, d5, d6, d7, d8, d9⟩, ml, mp, mc, mo⟩ := hmm
    have e1 : (31 + 8 * a + Z 205 a.toNat).toNat = 31 + 8 * a.toNat + (Z 205 a.toNat).toNat := by omega
    have e2 : (1 + a).toNat = 1 + a.toNat := by omega
    have e3 : (11 + a).toNat = 11 + a.toNat := by omega
    have e4 : (21 + a).toNat = 21 + a.toNat := by omega
    have q3 : 0 ≤ Z (61 + 5 * a.toNat) 3 := by rw [s9]; split <;> omega
    have q4 : Z (61 + 5 * a.toNat) 4 < 8 := by rw [s10]; split <;> omega
    have q5 : Z (61 + 5 * a.toNat) 3 ≤ Z (61 + 5 * a.toNat) 4 := by rw [s9, s10]; split <;> omega
    have hlen : ∀ t : Nat, Z (61 + 5 * a.toNat) 3 ≤ t → (t : Int) ≤ Z (61 + 5 * a.toNat) 4 → 0 ≤ Z (61 + 5 * a.toNat + 2) t ∧ Z (61 + 5 * a.toNat + 2) t ≤ 30 := fun t h1 h2 => by
      have := ml t h1 h2
      omega
    by_cases ht : 0 ≤ b ∧ b < Z 190 0
    · by_cases hk0 : k < 0
      · refine Op.same hI (-3) (by decide) ?_ ?_
        · simp (disch := first | assumption | decide +kernel | omega | (split <;> omega)) only [q_91_0, q_91_1, q_91_2, q_91_3, q_91_6, q_91_8, q_91_10, q_91_13, q_91_15, q_91_16, q_91_17, q_91_20, q_91_22, q_91_23, q_91_24, q_91_27, q_91_30, q_91_31, q_91_32, q_91_33, q_91_34, q_91_37, c_copyError, pm_some, Option.toList_some, Option.toList_none, List.cons_append, List.nil_append, pm_i0, pm_i1, Nat.reduceAdd, Nat.reduceMul, Int.toNat_natCast, a1, a7, hm, ht, hk0, not_true_eq_false, not_false_eq_true, and_self, true_and, and_true, ↓reduceIte, Int.reduceEq, Int.reduceLT, Int.reduceLE, Int.reduceNeg]
        · simp (disch := first | assumption | decide +kernel | omega | (split <;> omega)) only [q_142_0, q_142_1, q_142_2, q_142_5, q_142_8, q_142_10, q_142_11, q_142_12, q_142_13, q_142_16, q_142_19, q_142_20, q_142_21, q_142_22, q_142_25, q_142_27, q_142_28, q_142_29, q_142_30, q_142_31, q_142_34, q_142_37, q_142_38, q_142_39, q_142_40, q_142_41, q_142_44, q_142_47, q_142_48, q_142_49, q_142_50, q_142_51, q_142_54, q_142_57, q_142_59, c_noMessage, c_noTower, pm_some, Option.toList_some, Option.toList_none, List.cons_append, List.nil_append, pm_i0, pm_i1, Nat.reduceAdd, Nat.reduceMul, Int.toNat_natCast, hm, ht, hk0, not_true_eq_false, not_false_eq_true, and_self, true_and, and_true, ↓reduceIte, Int.reduceEq, Int.reduceLT, Int.reduceLE, Int.reduceNeg]
      · by_cases hw : Z (61 + 5 * a.toNat) 3 ≤ b ∧ b ≤ Z (61 + 5 * a.toNat) 4
        · have hw' := hw
          rw [s9, s10] at hw'
          have hl := ml b.toNat (by omega) (by omega)
          have e5 : (31 + 8 * a + b).toNat = 31 + 8 * a.toNat + b.toNat := by omega
          have hr5 : pm_r (Z 191 (31 + 8 * a.toNat + b.toNat)) := by omega
          by_cases hkl : k < Z (61 + 5 * a.toNat + 2) b.toNat
          · have hc := mc b.toNat k.toNat (by omega) (by omega) (by omega)
            have e6 : (b * 30 + k).toNat = b.toNat * 30 + k.toNat := by omega
            have e7 : (311 + 30 * (8 * a + b) + k).toNat = 311 + 30 * (8 * a.toNat + b.toNat) + k.toNat := by omega
            have hk00 : 0 ≤ k := by omega
            refine Op.same hI (Z (61 + 5 * a.toNat + 1) (b.toNat * 30 + k.toNat)) (by omega) ?_ ?_
            · simp (disch := first | assumption | decide +kernel | omega | (split <;> omega)) only [q_91_0, q_91_1, q_91_2, q_91_3, q_91_6, q_91_8, q_91_10, q_91_13, q_91_15, q_91_16, q_91_17, q_91_20, q_91_22, q_91_23, q_91_24, q_91_27, q_91_30, q_91_31, q_91_32, q_91_33, q_91_34, q_91_37, c_copyError, c_signAt, pm_some, Option.toList_some, Option.toList_none, List.cons_append, List.nil_append, pm_i0, pm_i1, Nat.reduceAdd, Nat.reduceMul, Int.toNat_natCast, a1, a7, hm, ht, hk0, hk00, hkl, hw, e6, not_true_eq_false, not_false_eq_true, and_self, true_and, and_true, ↓reduceIte, Int.reduceEq, Int.reduceLT, Int.reduceLE, Int.reduceNeg]
            · have hkl2 : k < Z 191 (31 + 8 * a.toNat + b.toNat) := by omega
              simp (disch := first | assumption | decide +kernel | omega | (split <;> omega)) only [q_142_0, q_142_1, q_142_2, q_142_5, q_142_8, q_142_10, q_142_11, q_142_12, q_142_13, q_142_16, q_142_19, q_142_20, q_142_21, q_142_22, q_142_25, q_142_27, q_142_28, q_142_29, q_142_30, q_142_31, q_142_34, q_142_37, q_142_38, q_142_39, q_142_40, q_142_41, q_142_44, q_142_47, q_142_48, q_142_49, q_142_50, q_142_51, q_142_54, q_142_57, q_142_59, c_noMessage, c_noTower, c_R_isOnWay, c_R_copyLong, c_R_signAt, pm_some, Option.toList_some, Option.toList_none, List.cons_append, List.nil_append, pm_i0, pm_i1, Nat.reduceAdd, Nat.reduceMul, Int.toNat_natCast, hm, ht, hk0, hw', hkl2, not_true_eq_false, not_false_eq_true, and_self, true_and, and_true, ↓reduceIte, Int.reduceEq, Int.reduceLT, Int.reduceLE, Int.reduceNeg, e5, e7, ← hc.1]
          · have hkl2 : ¬ k < Z 191 (31 + 8 * a.toNat + b.toNat) := by omega
            refine Op.same hI (-6) (by decide) ?_ ?_
            · simp (disch := first | assumption | decide +kernel | omega | (split <;> omega)) only [q_91_0, q_91_1, q_91_2, q_91_3, q_91_6, q_91_8, q_91_10, q_91_13, q_91_15, q_91_16, q_91_17, q_91_20, q_91_22, q_91_23, q_91_24, q_91_27, q_91_30, q_91_31, q_91_32, q_91_33, q_91_34, q_91_37, c_copyError, c_signAt, pm_some, Option.toList_some, Option.toList_none, List.cons_append, List.nil_append, pm_i0, pm_i1, Nat.reduceAdd, Nat.reduceMul, Int.toNat_natCast, a1, a7, hm, ht, hk0, hkl, hw, not_true_eq_false, not_false_eq_true, and_self, true_and, and_true, ↓reduceIte, Int.reduceEq, Int.reduceLT, Int.reduceLE, Int.reduceNeg, and_false]
            · simp (disch := first | assumption | decide +kernel | omega | (split <;> omega)) only [q_142_0, q_142_1, q_142_2, q_142_5, q_142_8, q_142_10, q_142_11, q_142_12, q_142_13, q_142_16, q_142_19, q_142_20, q_142_21, q_142_22, q_142_25, q_142_27, q_142_28, q_142_29, q_142_30, q_142_31, q_142_34, q_142_37, q_142_38, q_142_39, q_142_40, q_142_41, q_142_44, q_142_47, q_142_48, q_142_49, q_142_50, q_142_51, q_142_54, q_142_57, q_142_59, c_noMessage, c_noTower, c_R_isOnWay, c_R_copyLong, pm_some, Option.toList_some, Option.toList_none, List.cons_append, List.nil_append, pm_i0, pm_i1, Nat.reduceAdd, Nat.reduceMul, Int.toNat_natCast, hm, ht, hk0, hw', hkl2, not_true_eq_false, not_false_eq_true, and_self, true_and, and_true, ↓reduceIte, Int.reduceEq, Int.reduceLT, Int.reduceLE, Int.reduceNeg, e5]
        · have hw' := hw
          rw [s9, s10] at hw'
          refine Op.same hI (-6) (by decide) ?_ ?_
          · simp (disch := first | assumption | decide +kernel | omega | (split <;> omega)) only [q_91_0, q_91_1, q_91_2, q_91_3, q_91_6, q_91_8, q_91_10, q_91_13, q_91_15, q_91_16, q_91_17, q_91_20, q_91_22, q_91_23, q_91_24, q_91_27, q_91_30, q_91_31, q_91_32, q_91_33, q_91_34, q_91_37, c_copyError, c_signAt, pm_some, Option.toList_some, Option.toList_none, List.cons_append, List.nil_append, pm_i0, pm_i1, Nat.reduceAdd, Nat.reduceMul, Int.toNat_natCast, a1, a7, hm, ht, hk0, hw, not_true_eq_false, not_false_eq_true, and_self, true_and, and_true, ↓reduceIte, Int.reduceEq, Int.reduceLT, Int.reduceLE, Int.reduceNeg, false_and]
          · simp (disch := first | assumption | decide +kernel | omega | (split <;> omega)) only [q_142_0, q_142_1, q_142_2, q_142_5, q_142_8, q_142_10, q_142_11, q_142_12, q_142_13, q_142_16, q_142_19, q_142_20, q_142_21, q_142_22, q_142_25, q_142_27, q_142_28, q_142_29, q_142_30, q_142_31, q_142_34, q_142_37, q_142_38, q_142_39, q_142_40, q_142_41, q_142_44, q_142_47, q_142_48, q_142_49, q_142_50, q_142_51, q_142_54, q_142_57, q_142_59, c_noMessage, c_noTower, c_R_isOnWay, pm_some, Option.toList_some, Option.toList_none, List.cons_append, List.nil_append, pm_i0, pm_i1, Nat.reduceAdd, Nat.reduceMul, Int.toNat_natCast, hm, ht, hk0, hw', not_true_eq_false, not_false_eq_true, and_self, true_and, and_true, ↓reduceIte, Int.reduceEq, Int.reduceLT, Int.reduceLE, Int.reduceNeg]
    · refine Op.same hI (-1) (by decide) ?_ ?_
      · simp (disch := first | assumption | decide +kernel | omega | (split <;> omega)) only [q_91_0, q_91_1, q_91_2, q_91_3, q_91_6, q_91_8, q_91_10, q_91_13, q_91_15, q_91_16, q_91_17, q_91_20, q_91_22, q_91_23, q_91_24, q_91_27, q_91_30, q_91_31, q_91_32, q_91_33, q_91_34, q_91_37, c_copyError, pm_some, Option.toList_some, Option.toList_none, List.cons_append, List.nil_append, pm_i0, pm_i1, Nat.reduceAdd, Nat.reduceMul, Int.toNat_natCast, a1, a7, hm, ht, not_true_eq_false, not_false_eq_true, and_self, true_and, and_true, ↓reduceIte, Int.reduceEq, Int.reduceLT, Int.reduceLE, Int.reduceNeg]
      · simp (disch := first | assumption | decide +kernel | omega | (split <;> omega)) only [q_142_0, q_142_1, q_142_2, q_142_5, q_142_8, q_142_10, q_142_11, q_142_12, q_142_13, q_142_16, q_142_19, q_142_20, q_142_21, q_142_22, q_142_25, q_142_27, q_142_28, q_142_29, q_142_30, q_142_31, q_142_34, q_142_37, q_142_38, q_142_39, q_142_40, q_142_41, q_142_44, q_142_47, q_142_48, q_142_49, q_142_50, q_142_51, q_142_54, q_142_57, q_142_59, c_noMessage, c_noTower, pm_some, Option.toList_some, Option.toList_none, List.cons_append, List.nil_append, pm_i0, pm_i1, Nat.reduceAdd, Nat.reduceMul, Int.toNat_natCast, hm, ht, not_true_eq_false, not_false_eq_true, and_self, true_and, and_true, ↓reduceIte, Int.reduceEq, Int.reduceLT, Int.reduceLE, Int.reduceNeg]
  · refine Op.same hI (-2) (by decide) ?_ ?_
    · simp (disch := first | assumption | decide +kernel | omega | (split <;> omega)) only [q_91_0, q_91_1, q_91_2, q_91_3, q_91_6, q_91_8, q_91_10, q_91_13, q_91_15, q_91_16, q_91_17, q_91_20, q_91_22, q_91_23, q_91_24, q_91_27, q_91_30, q_91_31, q_91_32, q_91_33, q_91_34, q_91_37, c_copyError, pm_some, Option.toList_some, Option.toList_none, List.cons_append, List.nil_append, pm_i0, pm_i1, Nat.reduceAdd, Nat.reduceMul, Int.toNat_natCast, a1, a7, hm, not_true_eq_false, not_false_eq_true, and_self, true_and, and_true, ↓reduceIte, Int.reduceEq, Int.reduceLT, Int.reduceLE, Int.reduceNeg]
    · simp (disch := first | assumption | decide +kernel | omega | (split <;> omega)) only [q_142_0, q_142_1, q_142_2, q_142_5, q_142_8, q_142_10, q_142_11, q_142_12, q_142_13, q_142_16, q_142_19, q_142_20, q_142_21, q_142_22, q_142_25, q_142_27, q_142_28, q_142_29, q_142_30, q_142_31, q_142_34, q_142_37, q_142_38, q_142_39, q_142_40, q_142_41, q_142_44, q_142_47, q_142_48, q_142_49, q_142_50, q_142_51, q_142_54, q_142_57, q_142_59, c_noMessage, pm_some, Option.toList_some, Option.toList_none, List.cons_append, List.nil_append, pm_i0, pm_i1, Nat.reduceAdd, Nat.reduceMul, Int.toNat_natCast, hm, not_true_eq_false, not_false_eq_true, and_self, true_and, and_true, ↓reduceIte, Int.reduceEq, Int.reduceLT, Int.reduceLE, Int.reduceNeg]
