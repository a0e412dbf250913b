/-! loops: faults, messages under way, blind links -/
/-- the first of n rows from k on that is of link l and reading r -/
def md_of (r1 r2 r3 : Nat → Int) (l r : Int) : Nat → Nat → Int
  | 0, _ => 0
  | n + 1, k => if r1 k = l then (if r2 k = r then r3 k else md_of r1 r2 r3 l r n (k + 1)) else md_of r1 r2 r3 l r n (k + 1)
theorem md_of_succ (r1 r2 r3 : Nat → Int) (l r : Int) (n k : Nat) : md_of r1 r2 r3 l r (n + 1) k = if r1 k = l then (if r2 k = r then r3 k else md_of r1 r2 r3 l r n (k + 1)) else md_of r1 r2 r3 l r n (k + 1) := rfl
theorem md_of_congr {r1 r2 r3 s1 s2 s3 : Nat → Int} {l r : Int} : ∀ (n k : Nat), (∀ j, k ≤ j → j < k + n → r1 j = s1 j ∧ r2 j = s2 j ∧ r3 j = s3 j) → md_of r1 r2 r3 l r n k = md_of s1 s2 s3 l r n k
  | 0, _, _ => rfl
  | n + 1, k, h => by
    obtain ⟨e1, e2, e3⟩ := h k (Nat.le_refl _) (by omega)
    unfold md_of
    rw [e1, e2, e3, md_of_congr n (k + 1) (fun j h1 h2 => h j (by omega) (by omega))]
theorem md_of_r {r1 r2 r3 : Nat → Int} {l r : Int} {b : Int} (hb : 0 ≤ b) : ∀ (n k : Nat), (∀ j, k ≤ j → j < k + n → 1 ≤ r3 j ∧ r3 j ≤ b) → 0 ≤ md_of r1 r2 r3 l r n k ∧ md_of r1 r2 r3 l r n k ≤ b
  | 0, _, _ => ⟨Int.le_refl _, hb⟩
  | n + 1, k, h => by
    have h1 := h k (Nat.le_refl _) (by omega)
    have h2 := md_of_r (r1 := r1) (r2 := r2) (l := l) (r := r) hb n (k + 1) (fun j h1 h2 => h j (by omega) (by omega))
    unfold md_of
    split
    · split
      · omega
      · exact h2
    · exact h2
theorem l_offsetOf (a : Nat) (l r : Int) (L : Nat) (Z : Nat → Nat → Int) (W : Nat → Nat) (ha : pm_kd a = 1) (q1 : pm_kd (a + 1) = 11) (q2 : pm_ln (a + 1) = 16) (q3 : pm_kd (a + 2) = 11) (q4 : pm_ln (a + 2) = 16) (q5 : pm_kd (a + 3) = 11) (q6 : pm_ln (a + 3) = 16) (hl : pm_r l) (hr : pm_r r) (hc : Z a 3 ≤ 16) (hv : ∀ k : Nat, (k : Int) < Z a 3 → pm_r (Z (a + 1) k) ∧ pm_r (Z (a + 2) k)) : ∀ (n k : Nat), (k : Int) + n = Z a 3 → pm_D (15, 2, [.ref a, .int (pm_J l), .int (pm_J r), .int (pm_J (k : Int))], [], pm_hp L Z W) = some (some (.int (pm_J (md_of (Z (a + 1)) (Z (a + 2)) (Z (a + 3)) l r n k))), pm_hp L Z W) := by
  intro n
  induction n with
  | zero =>
    intro k hk
    have hlt : ¬ (k : Int) < Z a 3 := by omega
    rw [q_15_2]
    simp (disch := first | assumption | decide +kernel | omega | (split <;> omega)) only [q_15_0, q_15_1, q_15_3, q_15_4, q_15_7, q_15_10, q_15_11, q_15_14, q_15_15, q_15_16, q_15_17, q_15_20, q_15_21, q_15_24, q_15_25, q_15_26, q_15_27, q_15_30, q_15_31, q_15_34, q_15_35, q_15_36, q_15_37, q_15_40, q_15_43, q_15_44, pm_some, Option.toList_some, Option.toList_none, List.cons_append, List.nil_append, pm_i0, pm_i1, Nat.reduceAdd, Nat.reduceMul, Int.toNat_natCast, hlt, not_true_eq_false, not_false_eq_true, and_self, true_and, and_true, ↓reduceIte, Int.reduceEq, Int.reduceLT, Int.reduceLE, Int.reduceNeg]
    rfl
  | succ n ih =>
    intro k hk
    have hlt : (k : Int) < Z a 3 := by omega
    obtain ⟨v1, v2⟩ := hv k hlt
    have ih' := ih (k + 1) (by omega)
    rw [show (((k + 1 : Nat)) : Int) = (k : Int) + 1 by omega] at ih'
    rw [q_15_2]
    simp (disch := first | assumption | decide +kernel | omega | (split <;> omega)) only [q_15_0, q_15_1, q_15_3, q_15_4, q_15_7, q_15_10, q_15_11, q_15_14, q_15_15, q_15_16, q_15_17, q_15_20, q_15_21, q_15_24, q_15_25, q_15_26, q_15_27, q_15_30, q_15_31, q_15_34, q_15_35, q_15_36, q_15_37, q_15_40, q_15_43, q_15_44, pm_some, Option.toList_some, Option.toList_none, List.cons_append, List.nil_append, pm_i0, pm_i1, Nat.reduceAdd, Nat.reduceMul, Int.toNat_natCast, hlt, not_true_eq_false, not_false_eq_true, and_self, true_and, and_true, ↓reduceIte, Int.reduceEq, Int.reduceLT, Int.reduceLE, Int.reduceNeg, ih']
    rw [md_of_succ]
    split
    · split <;> rfl
    · rfl
theorem c_offsetOf (a : Nat) (l r : Int) (L : Nat) (Z : Nat → Nat → Int) (W : Nat → Nat) (ha : pm_kd a = 1) (q1 : pm_kd (a + 1) = 11) (q2 : pm_ln (a + 1) = 16) (q3 : pm_kd (a + 2) = 11) (q4 : pm_ln (a + 2) = 16) (q5 : pm_kd (a + 3) = 11) (q6 : pm_ln (a + 3) = 16) (hl : pm_r l) (hr : pm_r r) (h0 : 0 ≤ Z a 3) (hc : Z a 3 ≤ 16) (hv : ∀ k : Nat, (k : Int) < Z a 3 → pm_r (Z (a + 1) k) ∧ pm_r (Z (a + 2) k)) : pm_D (15, 0, [.ref a, .int (pm_J l), .int (pm_J r), .null], [], pm_hp L Z W) = some (some (.int (pm_J (md_of (Z (a + 1)) (Z (a + 2)) (Z (a + 3)) l r (Z a 3).toNat 0))), pm_hp L Z W) := by
  rw [q_15_0, q_15_1]
  exact l_offsetOf a l r L Z W ha q1 q2 q3 q4 q5 q6 hl hr hc hv (Z a 3).toNat 0 (by omega)
theorem l_R_offsetOf (l r : Int) (L : Nat) (Z : Nat → Nat → Int) (W : Nat → Nat) (hl : pm_r l) (hr : pm_r r) (hc : Z 190 9 ≤ 16) (hv : ∀ k : Nat, (k : Int) < Z 190 9 → pm_r (Z 196 k) ∧ pm_r (Z 197 k)) : ∀ (n k : Nat), (k : Int) + n = Z 190 9 → pm_D (112, 2, [.ref 190, .int (pm_J l), .int (pm_J r), .int (pm_J (k : Int))], [], pm_hp L Z W) = some (some (.int (pm_J (md_of (Z 196) (Z 197) (Z 198) l r n k))), pm_hp L Z W) := by
  intro n
  induction n with
  | zero =>
    intro k hk
    have hlt : ¬ (k : Int) < Z 190 9 := by omega
    rw [q_112_2]
    simp (disch := first | assumption | decide +kernel | omega | (split <;> omega)) only [q_112_0, q_112_1, q_112_3, q_112_4, q_112_7, q_112_10, q_112_11, q_112_14, q_112_15, q_112_16, q_112_17, q_112_20, q_112_21, q_112_24, q_112_25, q_112_26, q_112_27, q_112_30, q_112_31, q_112_34, q_112_35, q_112_36, q_112_37, q_112_40, q_112_43, q_112_44, pm_some, Option.toList_some, Option.toList_none, List.cons_append, List.nil_append, pm_i0, pm_i1, Nat.reduceAdd, Nat.reduceMul, Int.toNat_natCast, hlt, not_true_eq_false, not_false_eq_true, and_self, true_and, and_true, ↓reduceIte, Int.reduceEq, Int.reduceLT, Int.reduceLE, Int.reduceNeg]
    rfl
  | succ n ih =>
    intro k hk
    have hlt : (k : Int) < Z 190 9 := by omega
    obtain ⟨v1, v2⟩ := hv k hlt
    have ih' := ih (k + 1) (by omega)
    rw [show (((k + 1 : Nat)) : Int) = (k : Int) + 1 by omega] at ih'
    rw [q_112_2]
    simp (disch := first | assumption | decide +kernel | omega | (split <;> omega)) only [q_112_0, q_112_1, q_112_3, q_112_4, q_112_7, q_112_10, q_112_11, q_112_14, q_112_15, q_112_16, q_112_17, q_112_20, q_112_21, q_112_24, q_112_25, q_112_26, q_112_27, q_112_30, q_112_31, q_112_34, q_112_35, q_112_36, q_112_37, q_112_40, q_112_43, q_112_44, pm_some, Option.toList_some, Option.toList_none, List.cons_append, List.nil_append, pm_i0, pm_i1, Nat.reduceAdd, Nat.reduceMul, Int.toNat_natCast, hlt, not_true_eq_false, not_false_eq_true, and_self, true_and, and_true, ↓reduceIte, Int.reduceEq, Int.reduceLT, Int.reduceLE, Int.reduceNeg, ih']
    rw [md_of_succ]
    split
    · split <;> rfl
    · rfl
theorem c_R_offsetOf (l r : Int) (L : Nat) (Z : Nat → Nat → Int) (W : Nat → Nat) (hl : pm_r l) (hr : pm_r r) (h0 : 0 ≤ Z 190 9) (hc : Z 190 9 ≤ 16) (hv : ∀ k : Nat, (k : Int) < Z 190 9 → pm_r (Z 196 k) ∧ pm_r (Z 197 k)) : pm_D (112, 0, [.ref 190, .int (pm_J l), .int (pm_J r), .null], [], pm_hp L Z W) = some (some (.int (pm_J (md_of (Z 196) (Z 197) (Z 198) l r (Z 190 9).toNat 0))), pm_hp L Z W) := by
  rw [q_112_0, q_112_1]
  exact l_R_offsetOf l r L Z W hl hr hc hv (Z 190 9).toNat 0 (by omega)
theorem c_takeFault (a : Nat) (l r f : Int) (L : Nat) (Z : Nat → Nat → Int) (W : Nat → Nat) (ha : pm_kd a = 1) (q1 : pm_kd (a + 1) = 11) (q2 : pm_ln (a + 1) = 16) (q3 : pm_kd (a + 2) = 11) (q4 : pm_ln (a + 2) = 16) (q5 : pm_kd (a + 3) = 11) (q6 : pm_ln (a + 3) = 16) (h0 : 0 ≤ Z a 3) (h1 : Z a 3 < 16) : pm_D (13, 0, [.ref a, .int (pm_J l), .int (pm_J r), .int (pm_J f)], [], pm_hp L Z W) = some (none, pm_hp L (pm_up (pm_up (pm_up (pm_up Z (a + 1) (Z a 3).toNat l) (a + 2) (Z a 3).toNat r) (a + 3) (Z a 3).toNat f) a 3 (Z a 3 + 1)) W) := by
  simp (disch := first | assumption | decide +kernel | omega | (split <;> omega)) only [q_13_0, q_13_1, q_13_4, q_13_6, q_13_9, q_13_10, q_13_13, q_13_14, q_13_17, q_13_18, q_13_19, q_13_20, q_13_23, q_13_24, q_13_27, q_13_28, q_13_29, q_13_30, q_13_33, q_13_34, q_13_37, q_13_38, q_13_39, q_13_40, q_13_41, q_13_44, q_13_45, q_13_46, q_13_49, pm_some, Option.toList_some, Option.toList_none, List.cons_append, List.nil_append, pm_i0, pm_i1, Nat.reduceAdd, Nat.reduceMul, Int.toNat_natCast, pm_up_ne, h1, not_true_eq_false, not_false_eq_true, and_self, true_and, and_true, ↓reduceIte, Int.reduceEq, Int.reduceLT, Int.reduceLE, Int.reduceNeg]

theorem op_addFault : Op_addFault := by
  intro T L Z W hI hT0 hT a b c ha hb hc
  obtain ⟨⟨⟨a1, a2, a3, a4, a5, a6, a7, a8, a9, a10, a11⟩, ⟨⟨w1, w2, w3, w4, w5, w6⟩, ⟨w7, w8, w9⟩, w10⟩, ⟨⟨f1, f2, f3⟩, f4⟩, hms, hun, hco, hsh, htk⟩, htx, hbk, hon⟩ := id hI
  have a8' : 0 ≤ Z 46 4 := by omega
  have a9' : Z 46 4 ≤ 10 := by omega
  have a2' : 0 ≤ Z 46 2 := by omega
  have a3' : Z 46 2 ≤ 8 := by omega
  have a2'' : 0 ≤ Z 190 0 := by omega
  obtain ⟨⟨ra, rw_, rf, rm, ru, rc, rs, rt⟩, -⟩ := id hI
  have f1' : Z 51 3 = Z 190 9 := f1
  have f20 : 0 ≤ Z 51 3 := by omega
  have f30 : Z 51 3 ≤ 16 := by omega
  have hf4 : ∀ k : Nat, (k : Int) < Z 190 9 → Z 52 k = Z 196 k ∧ Z 53 k = Z 197 k ∧ Z 54 k = Z 198 k ∧ 0 ≤ Z 196 k ∧ Z 196 k < 7 ∧ 1 ≤ Z 197 k ∧ Z 197 k ≤ 10000 ∧ 1 ≤ Z 198 k ∧ Z 198 k ≤ 99 := f4
  have hvC : ∀ k : Nat, (k : Int) < Z 51 3 → pm_r (Z 52 k) ∧ pm_r (Z 53 k) := fun k hk => by
    have := hf4 k (by omega)
    omega
  have hvR : ∀ k : Nat, (k : Int) < Z 190 9 → pm_r (Z 196 k) ∧ pm_r (Z 197 k) := fun k hk => by
    have := hf4 k hk
    omega
  have hof := c_offsetOf 51 a b L Z W (by decide +kernel) (by decide +kernel) (by decide +kernel) (by decide +kernel) (by decide +kernel) (by decide +kernel) (by decide +kernel) ha hb f20 f30 hvC
  have he : md_of (Z (51 + 1)) (Z (51 + 2)) (Z (51 + 3)) a b (Z 51 3).toNat 0 = md_of (Z 196) (Z 197) (Z 198) a b (Z 190 9).toNat 0 := by
    rw [f1']
    exact md_of_congr _ _ (fun j h1 h2 => by
      have := hf4 j (by omega)
      exact ⟨this.1, this.2.1, this.2.2.1⟩)
  rw [he] at hof
  have hob := md_of_r (r1 := Z 196) (r2 := Z 197) (r3 := Z 198) (l := a) (r := b) (b := 99) (by omega) (Z 190 9).toNat 0 (fun j h1 h2 => by
    have := hf4 j (by omega)
    omega)
  have hoR := c_R_offsetOf a b L Z W ha hb f2 f3 hvR
  clear he
  generalize hy : md_of (Z 196) (Z 197) (Z 198) a b (Z 190 9).toNat 0 = y at hof hob hoR
  by_cases hl : 0 ≤ a ∧ a < Z 190 0 - 1
  · by_cases h1 : 1 ≤ b ∧ b ≤ 10000
    · by_cases h2 : 1 ≤ c ∧ c ≤ 99
      · skip
        by_cases h0 : y = 0
        · have h0' : ¬ 0 < y := by omega
          by_cases h3 : Z 190 9 < 16
          · have h3' : Z 51 3 < 16 := by omega
            have h3n : ¬ Z 190 9 = 16 := by omega
            refine ⟨Z 190 9 + 1, (pm_up (pm_up (pm_up (pm_up Z 52 (Z 190 9).toNat a) 53 (Z 190 9).toNat b) 54 (Z 190 9).toNat c) 51 3 (Z 190 9 + 1)), W, pm_up (pm_up (pm_up (pm_up (pm_up (pm_up (pm_up (pm_up Z 52 (Z 190 9).toNat a) 53 (Z 190 9).toNat b) 54 (Z 190 9).toNat c) 51 3 (Z 190 9 + 1)) 196 (Z 190 9).toNat a) 197 (Z 190 9).toNat b) 198 (Z 190 9).toNat c) 190 9 (Z 190 9 + 1), W, by omega, ?_, ?_, Inv.up ?_, (by simp (disch := omega) only [pm_up_row]), (by simp (disch := omega) only [pm_up_row])⟩
            · simp (disch := first | assumption | decide +kernel | omega | (split <;> omega)) only [q_78_0, q_78_1, q_78_4, q_78_5, q_78_8, q_78_11, q_78_12, q_78_13, q_78_14, q_78_15, q_78_18, q_78_21, q_78_24, q_78_25, q_78_26, q_78_28, q_78_31, q_78_34, q_78_36, q_78_37, q_78_38, q_78_41, q_78_44, q_78_45, q_78_46, q_78_49, q_78_52, q_78_54, q_78_55, q_78_56, q_78_59, q_78_62, q_78_65, q_78_67, q_78_70, q_78_72, q_78_73, q_78_74, q_78_77, q_78_80, q_78_81, q_78_82, q_78_83, q_78_86, q_78_87, q_78_90, q_78_93, q_78_96, c_hasLink, c_isWithin, hof, c_takeFault, pm_some, Option.toList_some, Option.toList_none, List.cons_append, List.nil_append, pm_i0, pm_i1, Nat.reduceAdd, Nat.reduceMul, Int.toNat_natCast, a1, f1', hl, not_true_eq_false, not_false_eq_true, and_self, true_and, and_true, ↓reduceIte, Int.reduceEq, Int.reduceLT, Int.reduceLE, Int.reduceNeg, h1, h2, h3, h0, pm_up_same]
            · have z0 : (pm_up (pm_up (pm_up (pm_up Z 52 (Z 190 9).toNat a) 53 (Z 190 9).toNat b) 54 (Z 190 9).toNat c) 51 3 (Z 190 9 + 1)) 190 = Z 190 := (by simp (disch := omega) only [pm_up_row])
              have z1 : (pm_up (pm_up (pm_up (pm_up Z 52 (Z 190 9).toNat a) 53 (Z 190 9).toNat b) 54 (Z 190 9).toNat c) 51 3 (Z 190 9 + 1)) 196 = Z 196 := (by simp (disch := omega) only [pm_up_row])
              have z2 : (pm_up (pm_up (pm_up (pm_up Z 52 (Z 190 9).toNat a) 53 (Z 190 9).toNat b) 54 (Z 190 9).toNat c) 51 3 (Z 190 9 + 1)) 197 = Z 197 := (by simp (disch := omega) only [pm_up_row])
              have z3 : (pm_up (pm_up (pm_up (pm_up Z 52 (Z 190 9).toNat a) 53 (Z 190 9).toNat b) 54 (Z 190 9).toNat c) 51 3 (Z 190 9 + 1)) 198 = Z 198 := (by simp (disch := omega) only [pm_up_row])
              generalize (pm_up (pm_up (pm_up (pm_up Z 52 (Z 190 9).toNat a) 53 (Z 190 9).toNat b) 54 (Z 190 9).toNat c) 51 3 (Z 190 9 + 1)) = Z1 at z0 z1 z2 z3 ⊢
              have g0 : 0 ≤ Z1 190 0 := by rw [z0]; omega
              have g1 : Z1 190 0 ≤ 8 := by rw [z0]; omega
              have hoR := c_R_offsetOf a b L Z1 W ha hb (by rw [z0]; exact f2) (by rw [z0]; exact f3) (by rw [z0, z1, z2]; exact hvR)
              rw [z0, z1, z2, z3, hy] at hoR
              simp (disch := first | assumption | decide +kernel | omega | (split <;> omega)) only [q_113_0, q_113_1, q_113_2, q_113_5, q_113_8, q_113_9, q_113_10, q_113_11, q_113_12, q_113_15, q_113_18, q_113_21, q_113_22, q_113_23, q_113_25, q_113_28, q_113_31, q_113_33, q_113_34, q_113_35, q_113_36, q_113_37, q_113_40, q_113_43, q_113_45, q_113_46, q_113_47, q_113_50, q_113_52, q_113_55, q_113_57, q_113_58, q_113_59, q_113_62, q_113_63, q_113_66, q_113_67, q_113_68, q_113_69, q_113_72, q_113_73, q_113_76, q_113_77, q_113_78, q_113_79, q_113_82, q_113_83, q_113_86, q_113_87, q_113_88, q_113_89, q_113_90, q_113_93, q_113_94, q_113_95, q_113_98, q_113_99, q_113_102, c_noLink, c_in, hoR, pm_some, Option.toList_some, Option.toList_none, List.cons_append, List.nil_append, pm_i0, pm_i1, Nat.reduceAdd, Nat.reduceMul, Int.toNat_natCast, z0, hl, h1, h2, h0, h3n, not_true_eq_false, not_false_eq_true, and_self, true_and, and_true, ↓reduceIte, Int.reduceEq, Int.reduceLT, Int.reduceLE, Int.reduceNeg, pm_up_ne, pm_up_same, Int.lt_irrefl]
            · refine ⟨⟨lr_a_congr ra (by simp [pm_up]) (by simp [pm_up]) (by simp [pm_up]) (by simp [pm_up]) (by simp [pm_up]) (by simp [pm_up]) (by simp [pm_up]), lr_w_congr rw_ (by simp (disch := omega) only [pm_up_row]) (by simp (disch := omega) only [pm_up_row]) (by simp (disch := omega) only [pm_up_row]) (by simp (disch := omega) only [pm_up_row]) (by simp [pm_up]) (by simp [pm_up]) (by simp [pm_up]) (by simp (disch := omega) only [pm_up_row]) (by simp (disch := omega) only [pm_up_row]) (by simp (disch := omega) only [pm_up_row]), ⟨⟨(by simp [pm_up]), ?_, ?_⟩, ?_⟩, ?_, lr_u_congr ru (by simp [pm_up]) (by simp (disch := omega) only [pm_up_row]), lr_c_congr rc (fun l hl => (by simp (disch := omega) only [pm_up_row])) (fun q _ _ => by simp [pm_up]), lr_s_congr rs (by simp (disch := omega) only [pm_up_row]) (by simp [pm_up]) (fun q _ _ => by simp [pm_up]), lr_t_congr rt (by simp [pm_up]) (by simp (disch := omega) only [pm_up_row]) (by simp (disch := omega) only [pm_up_row]) (by simp [pm_up]) (by simp [pm_up]) (by simp (disch := omega) only [pm_up_row]) (by simp (disch := omega) only [pm_up_row]) (by simp (disch := omega) only [pm_up_row]) (by simp (disch := omega) only [pm_up_row])⟩, tx_congr htx (by simp [pm_up]) (by simp (disch := omega) only [pm_up_row]) (by simp [pm_up]) (by simp (disch := omega) only [pm_up_row]), bk_congr hbk (by simp [pm_up]) (fun b _ _ => (by simp (disch := omega) only [pm_up_row])) (by simp [pm_up]) (by simp (disch := omega) only [pm_up_row]) (by simp (disch := omega) only [pm_up_row]) (by simp (disch := omega) only [pm_up_row]) (by simp (disch := omega) only [pm_up_row]), ?_⟩
              · simp [pm_up]; omega
              · simp [pm_up]; omega
              · intro i hi
                have hi : (i : Int) < Z 190 9 + 1 := by simpa [pm_up] using hi
                by_cases hin : i = (Z 190 9).toNat
                · subst hin
                  simp [pm_up]
                  omega
                · have := hf4 i (by omega)
                  simpa [pm_up, hin] using this
              · intro i hi
                have hi : (i : Int) < Z 190 22 := by simpa [pm_up] using hi
                exact lm_congr (rm i hi) (by simp (disch := omega) only [pm_up_row]) (by simp (disch := omega) only [pm_up_row]) (by simp (disch := omega) only [pm_up_row]) (by simp (disch := omega) only [pm_up_row]) (by simp (disch := omega) only [pm_up_row]) (by simp [pm_up]) a3 (by simp [pm_up]) (by simp [pm_up]) (by simp [pm_up]) (by simp [pm_up]) (fun q _ => by simp [pm_up])
              · simpa [pm_up] using hon
          · have h3e : Z 190 9 = 16 := by omega
            refine Op.same hI (-5) (by decide) ?_ ?_
            · simp (disch := first | assumption | decide +kernel | omega | (split <;> omega)) only [q_78_0, q_78_1, q_78_4, q_78_5, q_78_8, q_78_11, q_78_12, q_78_13, q_78_14, q_78_15, q_78_18, q_78_21, q_78_24, q_78_25, q_78_26, q_78_28, q_78_31, q_78_34, q_78_36, q_78_37, q_78_38, q_78_41, q_78_44, q_78_45, q_78_46, q_78_49, q_78_52, q_78_54, q_78_55, q_78_56, q_78_59, q_78_62, q_78_65, q_78_67, q_78_70, q_78_72, q_78_73, q_78_74, q_78_77, q_78_80, q_78_81, q_78_82, q_78_83, q_78_86, q_78_87, q_78_90, q_78_93, q_78_96, c_hasLink, c_isWithin, hof, c_takeFault, pm_some, Option.toList_some, Option.toList_none, List.cons_append, List.nil_append, pm_i0, pm_i1, Nat.reduceAdd, Nat.reduceMul, Int.toNat_natCast, a1, f1', hl, not_true_eq_false, not_false_eq_true, and_self, true_and, and_true, ↓reduceIte, Int.reduceEq, Int.reduceLT, Int.reduceLE, Int.reduceNeg, h1, h2, h3, h0]
            · simp (disch := first | assumption | decide +kernel | omega | (split <;> omega)) only [q_113_0, q_113_1, q_113_2, q_113_5, q_113_8, q_113_9, q_113_10, q_113_11, q_113_12, q_113_15, q_113_18, q_113_21, q_113_22, q_113_23, q_113_25, q_113_28, q_113_31, q_113_33, q_113_34, q_113_35, q_113_36, q_113_37, q_113_40, q_113_43, q_113_45, q_113_46, q_113_47, q_113_50, q_113_52, q_113_55, q_113_57, q_113_58, q_113_59, q_113_62, q_113_63, q_113_66, q_113_67, q_113_68, q_113_69, q_113_72, q_113_73, q_113_76, q_113_77, q_113_78, q_113_79, q_113_82, q_113_83, q_113_86, q_113_87, q_113_88, q_113_89, q_113_90, q_113_93, q_113_94, q_113_95, q_113_98, q_113_99, q_113_102, c_noLink, c_in, hoR, pm_some, Option.toList_some, Option.toList_none, List.cons_append, List.nil_append, pm_i0, pm_i1, Nat.reduceAdd, Nat.reduceMul, Int.toNat_natCast, hl, not_true_eq_false, not_false_eq_true, and_self, true_and, and_true, ↓reduceIte, Int.reduceEq, Int.reduceLT, Int.reduceLE, Int.reduceNeg, h1, h2, h3e, h0, Int.lt_irrefl]
        · have h0' : 0 < y := by omega
          refine Op.same hI (-4) (by decide) ?_ ?_
          · simp (disch := first | assumption | decide +kernel | omega | (split <;> omega)) only [q_78_0, q_78_1, q_78_4, q_78_5, q_78_8, q_78_11, q_78_12, q_78_13, q_78_14, q_78_15, q_78_18, q_78_21, q_78_24, q_78_25, q_78_26, q_78_28, q_78_31, q_78_34, q_78_36, q_78_37, q_78_38, q_78_41, q_78_44, q_78_45, q_78_46, q_78_49, q_78_52, q_78_54, q_78_55, q_78_56, q_78_59, q_78_62, q_78_65, q_78_67, q_78_70, q_78_72, q_78_73, q_78_74, q_78_77, q_78_80, q_78_81, q_78_82, q_78_83, q_78_86, q_78_87, q_78_90, q_78_93, q_78_96, c_hasLink, c_isWithin, hof, c_takeFault, pm_some, Option.toList_some, Option.toList_none, List.cons_append, List.nil_append, pm_i0, pm_i1, Nat.reduceAdd, Nat.reduceMul, Int.toNat_natCast, a1, f1', hl, not_true_eq_false, not_false_eq_true, and_self, true_and, and_true, ↓reduceIte, Int.reduceEq, Int.reduceLT, Int.reduceLE, Int.reduceNeg, h1, h2, h0]
          · simp (disch := first | assumption | decide +kernel | omega | (split <;> omega)) only [q_113_0, q_113_1, q_113_2, q_113_5, q_113_8, q_113_9, q_113_10, q_113_11, q_113_12, q_113_15, q_113_18, q_113_21, q_113_22, q_113_23, q_113_25, q_113_28, q_113_31, q_113_33, q_113_34, q_113_35, q_113_36, q_113_37, q_113_40, q_113_43, q_113_45, q_113_46, q_113_47, q_113_50, q_113_52, q_113_55, q_113_57, q_113_58, q_113_59, q_113_62, q_113_63, q_113_66, q_113_67, q_113_68, q_113_69, q_113_72, q_113_73, q_113_76, q_113_77, q_113_78, q_113_79, q_113_82, q_113_83, q_113_86, q_113_87, q_113_88, q_113_89, q_113_90, q_113_93, q_113_94, q_113_95, q_113_98, q_113_99, q_113_102, c_noLink, c_in, hoR, pm_some, Option.toList_some, Option.toList_none, List.cons_append, List.nil_append, pm_i0, pm_i1, Nat.reduceAdd, Nat.reduceMul, Int.toNat_natCast, hl, not_true_eq_false, not_false_eq_true, and_self, true_and, and_true, ↓reduceIte, Int.reduceEq, Int.reduceLT, Int.reduceLE, Int.reduceNeg, h1, h2, h0']
      · refine Op.same hI (-3) (by decide) ?_ ?_
        · simp (disch := first | assumption | decide +kernel | omega | (split <;> omega)) only [q_78_0, q_78_1, q_78_4, q_78_5, q_78_8, q_78_11, q_78_12, q_78_13, q_78_14, q_78_15, q_78_18, q_78_21, q_78_24, q_78_25, q_78_26, q_78_28, q_78_31, q_78_34, q_78_36, q_78_37, q_78_38, q_78_41, q_78_44, q_78_45, q_78_46, q_78_49, q_78_52, q_78_54, q_78_55, q_78_56, q_78_59, q_78_62, q_78_65, q_78_67, q_78_70, q_78_72, q_78_73, q_78_74, q_78_77, q_78_80, q_78_81, q_78_82, q_78_83, q_78_86, q_78_87, q_78_90, q_78_93, q_78_96, c_hasLink, c_isWithin, pm_some, Option.toList_some, Option.toList_none, List.cons_append, List.nil_append, pm_i0, pm_i1, Nat.reduceAdd, Nat.reduceMul, Int.toNat_natCast, a1, hl, not_true_eq_false, not_false_eq_true, and_self, true_and, and_true, ↓reduceIte, Int.reduceEq, Int.reduceLT, Int.reduceLE, Int.reduceNeg, h1, h2]
        · simp (disch := first | assumption | decide +kernel | omega | (split <;> omega)) only [q_113_0, q_113_1, q_113_2, q_113_5, q_113_8, q_113_9, q_113_10, q_113_11, q_113_12, q_113_15, q_113_18, q_113_21, q_113_22, q_113_23, q_113_25, q_113_28, q_113_31, q_113_33, q_113_34, q_113_35, q_113_36, q_113_37, q_113_40, q_113_43, q_113_45, q_113_46, q_113_47, q_113_50, q_113_52, q_113_55, q_113_57, q_113_58, q_113_59, q_113_62, q_113_63, q_113_66, q_113_67, q_113_68, q_113_69, q_113_72, q_113_73, q_113_76, q_113_77, q_113_78, q_113_79, q_113_82, q_113_83, q_113_86, q_113_87, q_113_88, q_113_89, q_113_90, q_113_93, q_113_94, q_113_95, q_113_98, q_113_99, q_113_102, c_noLink, c_in, pm_some, Option.toList_some, Option.toList_none, List.cons_append, List.nil_append, pm_i0, pm_i1, Nat.reduceAdd, Nat.reduceMul, Int.toNat_natCast, hl, not_true_eq_false, not_false_eq_true, and_self, true_and, and_true, ↓reduceIte, Int.reduceEq, Int.reduceLT, Int.reduceLE, Int.reduceNeg, h1, h2]
    · refine Op.same hI (-3) (by decide) ?_ ?_
      · simp (disch := first | assumption | decide +kernel | omega | (split <;> omega)) only [q_78_0, q_78_1, q_78_4, q_78_5, q_78_8, q_78_11, q_78_12, q_78_13, q_78_14, q_78_15, q_78_18, q_78_21, q_78_24, q_78_25, q_78_26, q_78_28, q_78_31, q_78_34, q_78_36, q_78_37, q_78_38, q_78_41, q_78_44, q_78_45, q_78_46, q_78_49, q_78_52, q_78_54, q_78_55, q_78_56, q_78_59, q_78_62, q_78_65, q_78_67, q_78_70, q_78_72, q_78_73, q_78_74, q_78_77, q_78_80, q_78_81, q_78_82, q_78_83, q_78_86, q_78_87, q_78_90, q_78_93, q_78_96, c_hasLink, c_isWithin, pm_some, Option.toList_some, Option.toList_none, List.cons_append, List.nil_append, pm_i0, pm_i1, Nat.reduceAdd, Nat.reduceMul, Int.toNat_natCast, a1, hl, not_true_eq_false, not_false_eq_true, and_self, true_and, and_true, ↓reduceIte, Int.reduceEq, Int.reduceLT, Int.reduceLE, Int.reduceNeg, h1]
      · simp (disch := first | assumption | decide +kernel | omega | (split <;> omega)) only [q_113_0, q_113_1, q_113_2, q_113_5, q_113_8, q_113_9, q_113_10, q_113_11, q_113_12, q_113_15, q_113_18, q_113_21, q_113_22, q_113_23, q_113_25, q_113_28, q_113_31, q_113_33, q_113_34, q_113_35, q_113_36, q_113_37, q_113_40, q_113_43, q_113_45, q_113_46, q_113_47, q_113_50, q_113_52, q_113_55, q_113_57, q_113_58, q_113_59, q_113_62, q_113_63, q_113_66, q_113_67, q_113_68, q_113_69, q_113_72, q_113_73, q_113_76, q_113_77, q_113_78, q_113_79, q_113_82, q_113_83, q_113_86, q_113_87, q_113_88, q_113_89, q_113_90, q_113_93, q_113_94, q_113_95, q_113_98, q_113_99, q_113_102, c_noLink, c_in, pm_some, Option.toList_some, Option.toList_none, List.cons_append, List.nil_append, pm_i0, pm_i1, Nat.reduceAdd, Nat.reduceMul, Int.toNat_natCast, hl, not_true_eq_false, not_false_eq_true, and_self, true_and, and_true, ↓reduceIte, Int.reduceEq, Int.reduceLT, Int.reduceLE, Int.reduceNeg, h1]
  · refine Op.same hI (-1) (by decide) ?_ ?_
    · simp (disch := first | assumption | decide +kernel | omega | (split <;> omega)) only [q_78_0, q_78_1, q_78_4, q_78_5, q_78_8, q_78_11, q_78_12, q_78_13, q_78_14, q_78_15, q_78_18, q_78_21, q_78_24, q_78_25, q_78_26, q_78_28, q_78_31, q_78_34, q_78_36, q_78_37, q_78_38, q_78_41, q_78_44, q_78_45, q_78_46, q_78_49, q_78_52, q_78_54, q_78_55, q_78_56, q_78_59, q_78_62, q_78_65, q_78_67, q_78_70, q_78_72, q_78_73, q_78_74, q_78_77, q_78_80, q_78_81, q_78_82, q_78_83, q_78_86, q_78_87, q_78_90, q_78_93, q_78_96, c_hasLink, pm_some, Option.toList_some, Option.toList_none, List.cons_append, List.nil_append, pm_i0, pm_i1, Nat.reduceAdd, Nat.reduceMul, Int.toNat_natCast, a1, hl, not_true_eq_false, not_false_eq_true, and_self, true_and, and_true, ↓reduceIte, Int.reduceEq, Int.reduceLT, Int.reduceLE, Int.reduceNeg]
    · simp (disch := first | assumption | decide +kernel | omega | (split <;> omega)) only [q_113_0, q_113_1, q_113_2, q_113_5, q_113_8, q_113_9, q_113_10, q_113_11, q_113_12, q_113_15, q_113_18, q_113_21, q_113_22, q_113_23, q_113_25, q_113_28, q_113_31, q_113_33, q_113_34, q_113_35, q_113_36, q_113_37, q_113_40, q_113_43, q_113_45, q_113_46, q_113_47, q_113_50, q_113_52, q_113_55, q_113_57, q_113_58, q_113_59, q_113_62, q_113_63, q_113_66, q_113_67, q_113_68, q_113_69, q_113_72, q_113_73, q_113_76, q_113_77, q_113_78, q_113_79, q_113_82, q_113_83, q_113_86, q_113_87, q_113_88, q_113_89, q_113_90, q_113_93, q_113_94, q_113_95, q_113_98, q_113_99, q_113_102, c_noLink, pm_some, Option.toList_some, Option.toList_none, List.cons_append, List.nil_append, pm_i0, pm_i1, Nat.reduceAdd, Nat.reduceMul, Int.toNat_natCast, hl, not_true_eq_false, not_false_eq_true, and_self, true_and, and_true, ↓reduceIte, Int.reduceEq, Int.reduceLT, Int.reduceLE, Int.reduceNeg]
