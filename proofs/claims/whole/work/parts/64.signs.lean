/-! a text becomes signs -/
/-- the place of the fault from i on, with or without a word begun, or -1 -/
def fp (t : Nat → Int) : Nat → Nat → Bool → Int
  | 0, i, b => if b = true then -1 else (i : Int)
  | n + 1, i, b => if t i ≤ 0 ∧ (t i = -1 ∨ b = false) then (i : Int) else fp t n (i + 1) (decide (0 < t i))
theorem fp_succ (t : Nat → Int) (n i : Nat) (b : Bool) : fp t (n + 1) i b = if t i ≤ 0 ∧ (t i = -1 ∨ b = false) then (i : Int) else fp t n (i + 1) (decide (0 < t i)) := rfl
theorem fp_r (t : Nat → Int) : ∀ (n i : Nat) (b : Bool), -1 ≤ fp t n i b ∧ fp t n i b ≤ (i : Int) + n
  | 0, i, b => by
    unfold fp
    split <;> omega
  | n + 1, i, b => by
    rw [fp_succ]
    have := fp_r t n (i + 1) (decide (0 < t i))
    split <;> omega
theorem fp_skip (t : Nat → Int) : ∀ (n i N : Nat) (b : Bool), i + n + 1 ≤ N → (∀ k, i ≤ k → k < i + n + 1 → 0 < t k) → fp t (N - i) i b = fp t (N - (i + n + 1)) (i + n + 1) true
  | 0, i, N, b, h1, h2 => by
    have := h2 i (Nat.le_refl _) (by omega)
    rw [show N - i = (N - (i + 0 + 1)) + 1 by omega, fp_succ, if_neg (by omega)]
    rw [show decide (0 < t i) = true by simp [this]]
  | n + 1, i, N, b, h1, h2 => by
    have := h2 i (Nat.le_refl _) (by omega)
    have ih := fp_skip t n (i + 1) N true (by omega) (fun k q1 q2 => h2 k (by omega) (by omega))
    rw [show N - i = (N - (i + 1)) + 1 by omega, fp_succ, if_neg (by omega)]
    rw [show decide (0 < t i) = true by simp [this], ih, show i + 1 + n + 1 = i + (n + 1) + 1 by omega]
theorem l_faultPlace (L : Nat) (Z : Nat → Nat → Int) (W : Nat → Nat) (h60 : Z 1 1 ≤ 60) (h0 : 0 ≤ Z 1 1) (hr : ∀ k : Nat, (k : Int) < Z 1 1 → -1 ≤ Z 2 k ∧ Z 2 k ≤ 26) : ∀ (n k : Nat) (b : Bool) (x : Int), ((b = true ∧ x = 1) ∨ (b = false ∧ x = 0)) → (k : Int) + n = Z 1 1 → pm_D (61, 4, [.ref 1, .int (pm_J x), .int (pm_J (k : Int))], [], pm_hp L Z W) = some (some (.int (pm_J (fp (Z 2) n k b))), pm_hp L Z W) := by
  intro n
  induction n with
  | zero =>
    intro k b x hb hk
    have hlt : ¬ (k : Int) < Z 1 1 := by omega
    have e : Z 1 1 = (k : Int) := by omega
    rw [q_61_4]
    rcases hb with ⟨rfl, rfl⟩ | ⟨rfl, rfl⟩
    · simp (disch := first | assumption | decide +kernel | omega | (split <;> omega)) only [q_61_0, q_61_1, q_61_2, q_61_3, q_61_5, q_61_6, q_61_9, q_61_12, q_61_13, q_61_14, q_61_17, q_61_20, q_61_21, q_61_24, q_61_25, q_61_26, q_61_27, q_61_30, q_61_31, q_61_34, q_61_35, q_61_36, q_61_37, q_61_38, q_61_41, q_61_42, q_61_45, q_61_48, q_61_49, q_61_52, q_61_53, q_61_56, q_61_57, q_61_60, pm_some, Option.toList_some, Option.toList_none, List.cons_append, List.nil_append, pm_i0, pm_i1, Nat.reduceAdd, Nat.reduceMul, Int.toNat_natCast, Int.toNat_zero, not_true_eq_false, not_false_eq_true, and_self, true_and, and_true, ↓reduceIte, Int.reduceEq, Int.reduceLT, Int.reduceLE, Int.reduceNeg, Bool.false_eq_true, e, Int.lt_irrefl]
      rfl
    · simp (disch := first | assumption | decide +kernel | omega | (split <;> omega)) only [q_61_0, q_61_1, q_61_2, q_61_3, q_61_5, q_61_6, q_61_9, q_61_12, q_61_13, q_61_14, q_61_17, q_61_20, q_61_21, q_61_24, q_61_25, q_61_26, q_61_27, q_61_30, q_61_31, q_61_34, q_61_35, q_61_36, q_61_37, q_61_38, q_61_41, q_61_42, q_61_45, q_61_48, q_61_49, q_61_52, q_61_53, q_61_56, q_61_57, q_61_60, pm_some, Option.toList_some, Option.toList_none, List.cons_append, List.nil_append, pm_i0, pm_i1, Nat.reduceAdd, Nat.reduceMul, Int.toNat_natCast, Int.toNat_zero, not_true_eq_false, not_false_eq_true, and_self, true_and, and_true, ↓reduceIte, Int.reduceEq, Int.reduceLT, Int.reduceLE, Int.reduceNeg, Bool.false_eq_true, e, Int.lt_irrefl]
      rfl
  | succ n ih =>
    intro k b x hb hk
    have hlt : (k : Int) < Z 1 1 := by omega
    have r1 := hr k hlt
    have hl := c_isLetter (k : Int) L Z W (by omega) (by omega) (by rw [Int.toNat_natCast]; omega)
    rw [Int.toNat_natCast] at hl
    have rr : pm_r (Z 2 k) := by omega
    by_cases c : 0 < Z 2 k
    · have h := ih (k + 1) true 1 (Or.inl ⟨rfl, rfl⟩) (by omega)
      rw [show (((k + 1 : Nat)) : Int) = (k : Int) + 1 by omega] at h
      rw [if_pos c] at hl
      have ef : fp (Z 2) (n + 1) k b = fp (Z 2) n (k + 1) true := by
        rw [fp_succ, if_neg (by omega), show decide (0 < Z 2 k) = true by simp [c]]
      rw [ef, q_61_4]
      rcases hb with ⟨-, rfl⟩ | ⟨-, rfl⟩
      · simp (disch := first | assumption | decide +kernel | omega | (split <;> omega)) only [q_61_0, q_61_1, q_61_2, q_61_3, q_61_5, q_61_6, q_61_9, q_61_12, q_61_13, q_61_14, q_61_17, q_61_20, q_61_21, q_61_24, q_61_25, q_61_26, q_61_27, q_61_30, q_61_31, q_61_34, q_61_35, q_61_36, q_61_37, q_61_38, q_61_41, q_61_42, q_61_45, q_61_48, q_61_49, q_61_52, q_61_53, q_61_56, q_61_57, q_61_60, pm_some, Option.toList_some, Option.toList_none, List.cons_append, List.nil_append, pm_i0, pm_i1, Nat.reduceAdd, Nat.reduceMul, Int.toNat_natCast, Int.toNat_zero, not_true_eq_false, not_false_eq_true, and_self, true_and, and_true, ↓reduceIte, Int.reduceEq, Int.reduceLT, Int.reduceLE, Int.reduceNeg, Bool.false_eq_true, hlt, hl, h]
      · simp (disch := first | assumption | decide +kernel | omega | (split <;> omega)) only [q_61_0, q_61_1, q_61_2, q_61_3, q_61_5, q_61_6, q_61_9, q_61_12, q_61_13, q_61_14, q_61_17, q_61_20, q_61_21, q_61_24, q_61_25, q_61_26, q_61_27, q_61_30, q_61_31, q_61_34, q_61_35, q_61_36, q_61_37, q_61_38, q_61_41, q_61_42, q_61_45, q_61_48, q_61_49, q_61_52, q_61_53, q_61_56, q_61_57, q_61_60, pm_some, Option.toList_some, Option.toList_none, List.cons_append, List.nil_append, pm_i0, pm_i1, Nat.reduceAdd, Nat.reduceMul, Int.toNat_natCast, Int.toNat_zero, not_true_eq_false, not_false_eq_true, and_self, true_and, and_true, ↓reduceIte, Int.reduceEq, Int.reduceLT, Int.reduceLE, Int.reduceNeg, Bool.false_eq_true, hlt, hl, h]
    · rw [if_neg c] at hl
      by_cases c1 : Z 2 k = -1
      · have ef : fp (Z 2) (n + 1) k b = (k : Int) := by
          rw [fp_succ, if_pos ⟨by omega, Or.inl c1⟩]
        rw [ef, q_61_4]
        rcases hb with ⟨-, rfl⟩ | ⟨-, rfl⟩
        · simp (disch := first | assumption | decide +kernel | omega | (split <;> omega)) only [q_61_0, q_61_1, q_61_2, q_61_3, q_61_5, q_61_6, q_61_9, q_61_12, q_61_13, q_61_14, q_61_17, q_61_20, q_61_21, q_61_24, q_61_25, q_61_26, q_61_27, q_61_30, q_61_31, q_61_34, q_61_35, q_61_36, q_61_37, q_61_38, q_61_41, q_61_42, q_61_45, q_61_48, q_61_49, q_61_52, q_61_53, q_61_56, q_61_57, q_61_60, pm_some, Option.toList_some, Option.toList_none, List.cons_append, List.nil_append, pm_i0, pm_i1, Nat.reduceAdd, Nat.reduceMul, Int.toNat_natCast, Int.toNat_zero, not_true_eq_false, not_false_eq_true, and_self, true_and, and_true, ↓reduceIte, Int.reduceEq, Int.reduceLT, Int.reduceLE, Int.reduceNeg, Bool.false_eq_true, hlt, hl, c1]
        · simp (disch := first | assumption | decide +kernel | omega | (split <;> omega)) only [q_61_0, q_61_1, q_61_2, q_61_3, q_61_5, q_61_6, q_61_9, q_61_12, q_61_13, q_61_14, q_61_17, q_61_20, q_61_21, q_61_24, q_61_25, q_61_26, q_61_27, q_61_30, q_61_31, q_61_34, q_61_35, q_61_36, q_61_37, q_61_38, q_61_41, q_61_42, q_61_45, q_61_48, q_61_49, q_61_52, q_61_53, q_61_56, q_61_57, q_61_60, pm_some, Option.toList_some, Option.toList_none, List.cons_append, List.nil_append, pm_i0, pm_i1, Nat.reduceAdd, Nat.reduceMul, Int.toNat_natCast, Int.toNat_zero, not_true_eq_false, not_false_eq_true, and_self, true_and, and_true, ↓reduceIte, Int.reduceEq, Int.reduceLT, Int.reduceLE, Int.reduceNeg, Bool.false_eq_true, hlt, hl, c1]
      · rcases hb with ⟨rfl, rfl⟩ | ⟨rfl, rfl⟩
        · have h := ih (k + 1) false 0 (Or.inr ⟨rfl, rfl⟩) (by omega)
          rw [show (((k + 1 : Nat)) : Int) = (k : Int) + 1 by omega] at h
          have ef : fp (Z 2) (n + 1) k true = fp (Z 2) n (k + 1) false := by
            rw [fp_succ, if_neg (fun q => q.2.elim c1 (fun h => Bool.noConfusion h)), show decide (0 < Z 2 k) = false by simp [c]]
          rw [ef, q_61_4]
          simp (disch := first | assumption | decide +kernel | omega | (split <;> omega)) only [q_61_0, q_61_1, q_61_2, q_61_3, q_61_5, q_61_6, q_61_9, q_61_12, q_61_13, q_61_14, q_61_17, q_61_20, q_61_21, q_61_24, q_61_25, q_61_26, q_61_27, q_61_30, q_61_31, q_61_34, q_61_35, q_61_36, q_61_37, q_61_38, q_61_41, q_61_42, q_61_45, q_61_48, q_61_49, q_61_52, q_61_53, q_61_56, q_61_57, q_61_60, pm_some, Option.toList_some, Option.toList_none, List.cons_append, List.nil_append, pm_i0, pm_i1, Nat.reduceAdd, Nat.reduceMul, Int.toNat_natCast, Int.toNat_zero, not_true_eq_false, not_false_eq_true, and_self, true_and, and_true, ↓reduceIte, Int.reduceEq, Int.reduceLT, Int.reduceLE, Int.reduceNeg, Bool.false_eq_true, hlt, hl, c1, h]
        · have ef : fp (Z 2) (n + 1) k false = (k : Int) := by
            rw [fp_succ, if_pos ⟨by omega, Or.inr rfl⟩]
          rw [ef, q_61_4]
          simp (disch := first | assumption | decide +kernel | omega | (split <;> omega)) only [q_61_0, q_61_1, q_61_2, q_61_3, q_61_5, q_61_6, q_61_9, q_61_12, q_61_13, q_61_14, q_61_17, q_61_20, q_61_21, q_61_24, q_61_25, q_61_26, q_61_27, q_61_30, q_61_31, q_61_34, q_61_35, q_61_36, q_61_37, q_61_38, q_61_41, q_61_42, q_61_45, q_61_48, q_61_49, q_61_52, q_61_53, q_61_56, q_61_57, q_61_60, pm_some, Option.toList_some, Option.toList_none, List.cons_append, List.nil_append, pm_i0, pm_i1, Nat.reduceAdd, Nat.reduceMul, Int.toNat_natCast, Int.toNat_zero, not_true_eq_false, not_false_eq_true, and_self, true_and, and_true, ↓reduceIte, Int.reduceEq, Int.reduceLT, Int.reduceLE, Int.reduceNeg, Bool.false_eq_true, hlt, hl, c1]
theorem c_faultPlace (L : Nat) (Z : Nat → Nat → Int) (W : Nat → Nat) (h60 : Z 1 1 ≤ 60) (h0 : 0 ≤ Z 1 1) (hr : ∀ k : Nat, (k : Int) < Z 1 1 → -1 ≤ Z 2 k ∧ Z 2 k ≤ 26) : pm_D (61, 0, [.ref 1, .null, .null], [], pm_hp L Z W) = some (some (.int (pm_J (fp (Z 2) (Z 1 1).toNat 0 false))), pm_hp L Z W) := by
  have h := l_faultPlace L Z W h60 h0 hr (Z 1 1).toNat 0 false 0 (Or.inr ⟨rfl, rfl⟩) (by omega)
  rw [q_61_0, q_61_1, q_61_2, q_61_3]
  exact h
def AgB (Y Z : Nat → Nat → Int) : Prop := ∀ a, 1 ≤ a → a < 45 → Y a = Z a
def AgT (Y Z : Nat → Nat → Int) : Prop := Y 190 13 = Z 190 13 ∧ Y 190 15 = Z 190 15 ∧ ∀ a, 199 ≤ a → a < 204 → Y a = Z a
theorem bkC_ag {Y Z : Nat → Nat → Int} {W : Nat → Nat} (A : AgB Y Z) (h : bkC Z W) : bkC Y W := by
  obtain ⟨h1, h2, h3⟩ := h
  have a3 := A 3 (by omega) (by omega)
  refine ⟨by rw [a3]; exact h1, h2, fun i hi => ?_⟩
  rw [a3] at hi
  obtain ⟨j, hj, hW⟩ := h2 i (by omega)
  rw [A (W i) (by omega) (by omega), A (W i + 1) (by omega) (by omega)]
  exact h3 i hi
theorem bkR_ag {Y Z : Nat → Nat → Int} (A : AgT Y Z) (h : bkR Z) : bkR Y := by
  obtain ⟨h1, h2, h3, h4⟩ := h
  obtain ⟨a13, a15, ar⟩ := A
  refine ⟨by rw [a15]; exact h1, by rw [a13]; exact h2, fun w hw => ?_, by rw [a13, ar 199 (by omega) (by omega)]; exact h4⟩
  rw [a15] at hw
  have := h3 w hw
  unfold bk_w at this ⊢
  rw [ar 200 (by omega) (by omega), ar 201 (by omega) (by omega), ar 202 (by omega) (by omega), ar 203 (by omega) (by omega)]
  exact this
theorem placeOf_ag {Y Z : Nat → Nat → Int} {f e : Nat} (A : AgB Y Z) (L : Nat) (W : Nat → Nat) (B : bkC Z W) (hfe : f ≤ e) (he : e ≤ 60) (hr2 : ∀ k : Nat, k < e → pm_r (Z 2 k)) : pm_D (1, 0, [.ref 3, .ref 1, .int (pm_J (f : Int)), .int (pm_J (e : Int)), .null], [], pm_hp L Y W) = some (some (.int (pm_J (fi (fun i => standC Z (W i) f e) (Z 3 1).toNat 0))), pm_hp L Y W) := by
  have h := c_placeOf (f := f) (e := e) L Y W (bkC_ag A B) hfe he (by rw [A 2 (by omega) (by omega)]; exact hr2)
  have b := B.1
  have e1 : ∀ n k : Nat, k + n ≤ 20 → fi (fun i => standC Y (W i) f e) n k = fi (fun i => standC Z (W i) f e) n k := by
    intro n
    induction n with
    | zero => intro k _; rfl
    | succ n ih =>
      intro k hk
      obtain ⟨j, hj, hW⟩ := B.2.1 k (by omega)
      have es : standC Y (W k) f e ↔ standC Z (W k) f e := by
        unfold standC
        rw [A (W k) (by omega) (by omega), A (W k + 1) (by omega) (by omega), A 2 (by omega) (by omega)]
      by_cases c : standC Z (W k) f e
      · rw [fi_pos (P := fun i => standC Y (W i) f e) (es.mpr c), fi_pos (P := fun i => standC Z (W i) f e) c]
      · rw [fi_neg (P := fun i => standC Y (W i) f e) (fun q => c (es.mp q)), fi_neg (P := fun i => standC Z (W i) f e) c, ih (k + 1) (by omega)]
  rw [A 3 (by omega) (by omega), e1 _ _ (by omega)] at h
  exact h
theorem wordBetween_ag {Y Z : Nat → Nat → Int} {f e : Nat} (A : AgT Y Z) (L : Nat) (W : Nat → Nat) (B : bkR Z) (hfe : f ≤ e) (he : (e : Int) ≤ Z 190 13) : pm_D (120, 0, [.ref 190, .int (pm_J (f : Int)), .int (pm_J (e : Int)), .null, .null, .null], [], pm_hp L Y W) = some (some (.int (pm_J (fi (fun w => standR Z w f e) (Z 190 15).toNat 0))), pm_hp L Y W) := by
  have h := c_wordBetween (f := f) (e := e) L Y W (bkR_ag A B) hfe (by rw [A.1]; exact he)
  have es : (fun w => standR Y w f e) = (fun w => standR Z w f e) := by
    funext w
    unfold standR
    rw [A.2.2 199 (by omega) (by omega), A.2.2 200 (by omega) (by omega), A.2.2 201 (by omega) (by omega)]
  rw [es, A.2.1] at h
  exact h
theorem c_put (p x : Int) (L : Nat) (Z : Nat → Nat → Int) (W : Nat → Nat) (h0 : 0 ≤ p) (hr : pm_r p) : pm_D (7, 0, [.ref 45, .int (pm_J p), .int (pm_J x)], [], pm_hp L Z W) = some (none, pm_hp L (if p < 30 then pm_up Z 45 p.toNat x else Z) W) := by
  have k1 : pm_kd 45 = 11 := by decide +kernel
  have k2 : pm_ln 45 = 30 := by decide +kernel
  by_cases c : p < 30
  · simp (disch := first | assumption | decide +kernel | omega | (split <;> omega)) only [q_7_0, q_7_1, (q_7_2 (n := 30)), q_7_3, q_7_6, q_7_7, q_7_8, (q_7_9 (n := 30)), q_7_10, pm_some, Option.toList_some, Option.toList_none, List.cons_append, List.nil_append, pm_i0, pm_i1, Nat.reduceAdd, Nat.reduceMul, Int.toNat_natCast, Int.toNat_zero, not_true_eq_false, not_false_eq_true, and_self, true_and, and_true, ↓reduceIte, Int.reduceEq, Int.reduceLT, Int.reduceLE, Int.reduceNeg, Bool.false_eq_true, Int.cast_ofNat_Int, c]
  · simp (disch := first | assumption | decide +kernel | omega | (split <;> omega)) only [q_7_0, q_7_1, (q_7_2 (n := 30)), q_7_3, q_7_6, q_7_7, q_7_8, (q_7_9 (n := 30)), q_7_10, pm_some, Option.toList_some, Option.toList_none, List.cons_append, List.nil_append, pm_i0, pm_i1, Nat.reduceAdd, Nat.reduceMul, Int.toNat_natCast, Int.toNat_zero, not_true_eq_false, not_false_eq_true, and_self, true_and, and_true, ↓reduceIte, Int.reduceEq, Int.reduceLT, Int.reduceLE, Int.reduceNeg, Bool.false_eq_true, Int.cast_ofNat_Int, c]
/-- row 45 after a sign -/
def pt (Y : Nat → Nat → Int) (c : Nat) (x : Int) : Nat → Nat → Int := if (c : Int) < 30 then pm_up Y 45 c x else Y
theorem pt_row {Y : Nat → Nat → Int} {c a : Nat} {x : Int} (h : a ≠ 45) : pt Y c x a = Y a := by
  unfold pt
  split
  · exact pm_up_row h
  · rfl
theorem pt_at {Y : Nat → Nat → Int} {c q : Nat} {x : Int} : pt Y c x 45 q = if q = c ∧ q < 30 then x else Y 45 q := by
  unfold pt
  by_cases h : (c : Int) < 30
  · rw [if_pos h]
    by_cases hq : q = c
    · subst hq
      rw [if_pos ⟨rfl, by omega⟩, pm_up_same]
    · rw [if_neg (fun k => hq k.1), pm_up_ne (by omega)]
  · rw [if_neg h, if_neg (by omega)]
theorem c_put' (c : Nat) (x : Int) (L : Nat) (Y : Nat → Nat → Int) (W : Nat → Nat) (hc : c ≤ 300) : pm_D (7, 0, [.ref 45, .int (pm_J (c : Int)), .int (pm_J x)], [], pm_hp L Y W) = some (none, pm_hp L (pt Y c x) W) := by
  have h := c_put (c : Int) x L Y W (by omega) (by omega)
  rw [Int.toNat_natCast] at h
  exact h
theorem AgB.put {Y Z : Nat → Nat → Int} {c : Nat} {x : Int} (A : AgB Y Z) : AgB (pt Y c x) Z := fun a h1 h2 => by rw [pt_row (by omega)]; exact A a h1 h2
theorem l_ewC {Z : Nat → Nat → Int} {f e : Nat} (L : Nat) (W : Nat → Nat) (place : Int) (he : e ≤ 60) (c0 : Int) : ∀ (n k : Nat) (Y : Nat → Nat → Int) (c : Nat), k + n = e → c + n ≤ 290 → AgB Y Z → ∃ Y', pm_D (6, 74, [.ref 3, .ref 1, .int (pm_J (f : Int)), .int (pm_J (e : Int)), .ref 45, .int (pm_J c0), .int (pm_J place), .int (pm_J (c : Int)), .int (pm_J (k : Int))], [], pm_hp L Y W) = some (some (.int (pm_J ((c : Int) + n + 1))), pm_hp L Y' W) ∧ (∀ a, a ≠ 45 → Y' a = Y a) ∧ ∀ q, Y' 45 q = if c ≤ q ∧ q < c + n + 1 ∧ q < 30 then (if q < c + n then Z 2 (k + (q - c)) else 27) else Y 45 q := by
  intro n
  induction n with
  | zero =>
    intro k Y c hk hc A
    obtain rfl : k = e := by omega
    have hp := c_put' c 27 L Y W (by omega)
    have hkr : pm_r (k : Int) := by omega
    refine ⟨pt Y c 27, ?_, fun a ha => pt_row ha, fun q => ?_⟩
    · rw [q_6_74]
      simp (disch := first | assumption | decide +kernel | omega | (split <;> omega)) only [q_6_0, q_6_1, q_6_2, q_6_3, q_6_4, q_6_7, q_6_9, q_6_11, q_6_12, q_6_15, q_6_17, q_6_19, q_6_21, q_6_24, q_6_26, q_6_28, q_6_29, q_6_30, q_6_31, q_6_34, q_6_36, q_6_37, q_6_40, q_6_43, q_6_45, q_6_47, q_6_48, q_6_49, q_6_50, q_6_53, q_6_55, q_6_56, q_6_59, q_6_62, q_6_64, q_6_65, q_6_66, q_6_67, q_6_69, q_6_71, q_6_72, q_6_76, q_6_77, q_6_80, q_6_82, q_6_84, q_6_85, q_6_88, q_6_90, q_6_91, q_6_94, q_6_97, q_6_100, q_6_103, q_6_105, q_6_107, q_6_109, q_6_112, q_6_114, q_6_115, q_6_116, pm_some, Option.toList_some, Option.toList_none, List.cons_append, List.nil_append, pm_i0, pm_i1, Nat.reduceAdd, Nat.reduceMul, Int.toNat_natCast, Int.toNat_zero, not_true_eq_false, not_false_eq_true, and_self, true_and, and_true, ↓reduceIte, Int.reduceEq, Int.reduceLT, Int.reduceLE, Int.reduceNeg, Bool.false_eq_true, Int.lt_irrefl, hp]
      rw [show (c : Int) + ((0 : Nat) : Int) + 1 = (c : Int) + 1 by omega]
    · rw [pt_at]
      by_cases h : q = c ∧ q < 30
      · rw [if_pos h, if_pos (by omega), if_neg (by omega)]
      · rw [if_neg h, if_neg (by omega)]
  | succ n ih =>
    intro k Y c hk hc A
    have hlt : (k : Int) < (e : Int) := by omega
    have hp := c_put' c (Z 2 k) L Y W (by omega)
    have y2 : Y 2 k = Z 2 k := by rw [A 2 (by omega) (by omega)]
    have hk60 : (k : Int) < 60 := by omega
    obtain ⟨Y', e1, f1, g1⟩ := ih (k + 1) (pt Y c (Z 2 k)) (c + 1) (by omega) (by omega) A.put
    rw [show (((k + 1 : Nat)) : Int) = (k : Int) + 1 by omega, show (((c + 1 : Nat)) : Int) = (c : Int) + 1 by omega] at e1
    refine ⟨Y', ?_, fun a ha => by rw [f1 a ha, pt_row ha], fun q => ?_⟩
    · rw [q_6_74]
      simp (disch := first | assumption | decide +kernel | omega | (split <;> omega)) only [q_6_0, q_6_1, q_6_2, q_6_3, q_6_4, q_6_7, q_6_9, q_6_11, q_6_12, q_6_15, q_6_17, q_6_19, q_6_21, q_6_24, q_6_26, q_6_28, q_6_29, q_6_30, q_6_31, q_6_34, q_6_36, q_6_37, q_6_40, q_6_43, q_6_45, q_6_47, q_6_48, q_6_49, q_6_50, q_6_53, q_6_55, q_6_56, q_6_59, q_6_62, q_6_64, q_6_65, q_6_66, q_6_67, q_6_69, q_6_71, q_6_72, q_6_76, q_6_77, q_6_80, q_6_82, q_6_84, q_6_85, q_6_88, q_6_90, q_6_91, q_6_94, q_6_97, q_6_100, q_6_103, q_6_105, q_6_107, q_6_109, q_6_112, q_6_114, q_6_115, q_6_116, pm_some, Option.toList_some, Option.toList_none, List.cons_append, List.nil_append, pm_i0, pm_i1, Nat.reduceAdd, Nat.reduceMul, Int.toNat_natCast, Int.toNat_zero, not_true_eq_false, not_false_eq_true, and_self, true_and, and_true, ↓reduceIte, Int.reduceEq, Int.reduceLT, Int.reduceLE, Int.reduceNeg, Bool.false_eq_true, hlt, y2, hp]
      rw [e1, show (c : Int) + 1 + (n : Int) + 1 = (c : Int) + ((n + 1 : Nat) : Int) + 1 by omega]
    · rw [g1 q, pt_at]
      by_cases h1 : q = c ∧ q < 30
      · obtain ⟨rfl, h30⟩ := h1
        rw [if_neg (by omega), if_pos ⟨rfl, h30⟩, if_pos (by omega), if_pos (by omega), show k + (q - q) = k by omega]
      · by_cases h2 : c + 1 ≤ q ∧ q < c + 1 + n + 1 ∧ q < 30
        · rw [if_pos h2, if_pos (show c ≤ q ∧ q < c + (n + 1) + 1 ∧ q < 30 by omega)]
          by_cases h3 : q < c + 1 + n
          · rw [if_pos h3, if_pos (show q < c + (n + 1) by omega), show k + 1 + (q - (c + 1)) = k + (q - c) by omega]
          · rw [if_neg h3, if_neg (show ¬ q < c + (n + 1) by omega)]
        · rw [if_neg h2, if_neg h1, if_neg (by omega)]
/-- the model's row 204 after a sign -/
def cd (Y : Nat → Nat → Int) (c : Nat) (x : Int) : Nat → Nat → Int := pm_up (pm_up Y 204 c x) 190 20 ((c : Int) + 1)
theorem c_codes (c : Nat) (x : Int) (L : Nat) (Y : Nat → Nat → Int) (W : Nat → Nat) (hc : c < 200) (hy : Y 190 20 = (c : Int)) : pm_D (125, 0, [.ref 190, .int (pm_J x)], [], pm_hp L Y W) = some (none, pm_hp L (cd Y c x) W) := by
  have h2 : pm_up Y 204 c x 190 20 = (c : Int) := by rw [pm_up_row (by omega)]; exact hy
  have c200 : (c : Int) < 200 := by omega
  simp (disch := first | assumption | decide +kernel | omega | (split <;> omega)) only [q_125_0, q_125_1, q_125_4, q_125_5, q_125_8, q_125_9, q_125_10, q_125_11, q_125_12, q_125_15, q_125_16, q_125_17, q_125_20, pm_some, Option.toList_some, Option.toList_none, List.cons_append, List.nil_append, pm_i0, pm_i1, Nat.reduceAdd, Nat.reduceMul, Int.toNat_natCast, Int.toNat_zero, hy, h2]
  rfl
def FrT (Y Y' : Nat → Nat → Int) : Prop := (∀ a, a ≠ 190 → a ≠ 204 → Y' a = Y a) ∧ ∀ q, q ≠ 20 → Y' 190 q = Y 190 q
theorem FrT.rfl {Y : Nat → Nat → Int} : FrT Y Y := ⟨fun _ _ _ => Eq.refl _, fun _ _ => Eq.refl _⟩
theorem FrT.trans {Y Y' Y'' : Nat → Nat → Int} (h : FrT Y Y') (h' : FrT Y' Y'') : FrT Y Y'' := ⟨fun a h1 h2 => (h'.1 a h1 h2).trans (h.1 a h1 h2), fun q hq => (h'.2 q hq).trans (h.2 q hq)⟩
theorem FrT.code {Y : Nat → Nat → Int} {c : Nat} {x : Int} : FrT Y (cd Y c x) := by
  refine ⟨fun a h1 h2 => ?_, fun q hq => ?_⟩
  · unfold cd
    rw [pm_up_row h1, pm_up_row h2]
  · unfold cd
    rw [pm_up_ne (by omega), pm_up_row (by omega)]
theorem AgT.fr {Y Y' Z : Nat → Nat → Int} (A : AgT Y Z) (F : FrT Y Y') : AgT Y' Z := ⟨by rw [F.2 13 (by omega)]; exact A.1, by rw [F.2 15 (by omega)]; exact A.2.1, fun a h1 h2 => by rw [F.1 a (by omega) (by omega)]; exact A.2.2 a h1 h2⟩
theorem cd_at {Y : Nat → Nat → Int} {c q : Nat} {x : Int} : cd Y c x 204 q = if q = c then x else Y 204 q := by
  unfold cd
  rw [pm_up_row (by omega)]
  by_cases h : q = c
  · subst h
    rw [if_pos rfl, pm_up_same]
  · rw [if_neg h, pm_up_ne (by omega)]
theorem cd_20 {Y : Nat → Nat → Int} {c : Nat} {x : Int} : cd Y c x 190 20 = ((c + 1 : Nat) : Int) := by
  unfold cd
  rw [pm_up_same]
  omega
theorem l_ewR {Z : Nat → Nat → Int} {f e : Nat} (L : Nat) (W : Nat → Nat) (w : Int) (he : e ≤ 60) (heZ : (e : Int) ≤ Z 190 13) (B : bkR Z) : ∀ (n k : Nat) (Y : Nat → Nat → Int) (c : Nat), k + n = e → c + n < 200 → AgT Y Z → Y 190 20 = (c : Int) → ∃ Y', pm_D (126, 83, [.ref 190, .int (pm_J (e : Int)), .int (pm_J 1), .int (pm_J (f : Int)), .int (pm_J w), .int (pm_J (k : Int))], [], pm_hp L Y W) = pm_D (126, 115, [.ref 190, .int (pm_J (e : Int)), .int (pm_J 1), .int (pm_J (f : Int)), .int (pm_J w), .int (pm_J (e : Int))], [], pm_hp L Y' W) ∧ FrT Y Y' ∧ Y' 190 20 = ((c + n + 1 : Nat) : Int) ∧ ∀ q, Y' 204 q = if c ≤ q ∧ q < c + n + 1 then (if q < c + n then Z 199 (k + (q - c)) - 96 else 27) else Y 204 q := by
  intro n
  induction n with
  | zero =>
    intro k Y c hk hc A hy
    obtain rfl : k = e := by omega
    have hp := c_codes c 27 L Y W (by omega) hy
    have hkr : pm_r (k : Int) := by omega
    refine ⟨cd Y c 27, ?_, FrT.code, cd_20, fun q => ?_⟩
    · rw [q_126_83]
      simp (disch := first | assumption | decide +kernel | omega | (split <;> omega)) only [q_126_0, q_126_1, q_126_2, q_126_5, q_126_6, q_126_7, q_126_8, q_126_10, q_126_13, q_126_14, q_126_16, q_126_17, q_126_20, q_126_23, q_126_26, q_126_29, q_126_30, q_126_31, q_126_34, q_126_35, q_126_36, q_126_37, q_126_38, q_126_39, q_126_42, q_126_44, q_126_46, q_126_49, q_126_50, q_126_52, q_126_55, q_126_56, q_126_57, q_126_60, q_126_62, q_126_63, q_126_66, q_126_67, q_126_68, q_126_71, q_126_73, q_126_74, q_126_77, q_126_80, q_126_81, q_126_85, q_126_86, q_126_89, q_126_90, q_126_91, q_126_94, q_126_96, q_126_97, q_126_99, q_126_100, q_126_103, q_126_106, q_126_109, q_126_110, q_126_112, q_126_116, q_126_117, q_126_120, q_126_123, q_126_124, q_126_127, q_126_128, q_126_129, q_126_130, q_126_133, q_126_134, q_126_137, q_126_138, q_126_139, q_126_141, q_126_144, q_126_145, q_126_146, q_126_149, q_126_152, q_126_153, pm_some, Option.toList_some, Option.toList_none, List.cons_append, List.nil_append, pm_i0, pm_i1, Nat.reduceAdd, Nat.reduceMul, Int.toNat_natCast, Int.toNat_zero, not_true_eq_false, not_false_eq_true, and_self, true_and, and_true, ↓reduceIte, Int.reduceEq, Int.reduceLT, Int.reduceLE, Int.reduceNeg, Bool.false_eq_true, Int.lt_irrefl, hp]
    · rw [cd_at]
      by_cases h : q = c
      · rw [if_pos h, if_pos (by omega), if_neg (by omega)]
      · rw [if_neg h, if_neg (by omega)]
  | succ n ih =>
    intro k Y c hk hc A hy
    have hlt : (k : Int) < (e : Int) := by omega
    have hch := B.2.2.2 k (by omega)
    have y199 : Y 199 k = Z 199 k := by rw [A.2.2 199 (by omega) (by omega)]
    have hp := c_codes c (Z 199 k - 96) L Y W (by omega) hy
    have hk60 : (k : Int) < 60 := by omega
    obtain ⟨Y', e1, f1, g0, g1⟩ := ih (k + 1) (cd Y c (Z 199 k - 96)) (c + 1) (by omega) (by omega) (A.fr FrT.code) cd_20
    rw [show (((k + 1 : Nat)) : Int) = (k : Int) + 1 by omega] at e1
    refine ⟨Y', ?_, FrT.trans FrT.code f1, by rw [g0]; omega, fun q => ?_⟩
    · rw [q_126_83]
      simp (disch := first | assumption | decide +kernel | omega | (split <;> omega)) only [q_126_0, q_126_1, q_126_2, q_126_5, q_126_6, q_126_7, q_126_8, q_126_10, q_126_13, q_126_14, q_126_16, q_126_17, q_126_20, q_126_23, q_126_26, q_126_29, q_126_30, q_126_31, q_126_34, q_126_35, q_126_36, q_126_37, q_126_38, q_126_39, q_126_42, q_126_44, q_126_46, q_126_49, q_126_50, q_126_52, q_126_55, q_126_56, q_126_57, q_126_60, q_126_62, q_126_63, q_126_66, q_126_67, q_126_68, q_126_71, q_126_73, q_126_74, q_126_77, q_126_80, q_126_81, q_126_85, q_126_86, q_126_89, q_126_90, q_126_91, q_126_94, q_126_96, q_126_97, q_126_99, q_126_100, q_126_103, q_126_106, q_126_109, q_126_110, q_126_112, q_126_116, q_126_117, q_126_120, q_126_123, q_126_124, q_126_127, q_126_128, q_126_129, q_126_130, q_126_133, q_126_134, q_126_137, q_126_138, q_126_139, q_126_141, q_126_144, q_126_145, q_126_146, q_126_149, q_126_152, q_126_153, pm_some, Option.toList_some, Option.toList_none, List.cons_append, List.nil_append, pm_i0, pm_i1, Nat.reduceAdd, Nat.reduceMul, Int.toNat_natCast, Int.toNat_zero, not_true_eq_false, not_false_eq_true, and_self, true_and, and_true, ↓reduceIte, Int.reduceEq, Int.reduceLT, Int.reduceLE, Int.reduceNeg, Bool.false_eq_true, hlt, y199, hp]
      exact e1
    · rw [g1 q, cd_at]
      by_cases h1 : q = c
      · subst h1
        rw [if_neg (by omega), if_pos rfl, if_pos (by omega), if_pos (by omega), show k + (q - q) = k by omega]
      · by_cases h2 : c + 1 ≤ q ∧ q < c + 1 + n + 1
        · rw [if_pos h2, if_pos (show c ≤ q ∧ q < c + (n + 1) + 1 by omega)]
          by_cases h3 : q < c + 1 + n
          · rw [if_pos h3, if_pos (show q < c + (n + 1) by omega), show k + 1 + (q - (c + 1)) = k + (q - c) by omega]
          · rw [if_neg h3, if_neg (show ¬ q < c + (n + 1) by omega)]
        · rw [if_neg h2, if_neg h1, if_neg (by omega)]
/-- a word of the text, both sides -/
theorem word_both {Z : Nat → Nat → Int} {W : Nat → Nat} {f e : Nat} (hB : bk Z W) (ht : tx Z) (hfe : f < e) (he : (e : Int) ≤ Z 190 13) (hlet : ∀ k, f ≤ k → k < e → 0 < Z 2 k) (L : Nat) : ∃ (m : Nat) (s : Nat → Int), (1 ≤ m ∧ m ≤ 3 * (e - f)) ∧ (∀ k, k < m → 0 ≤ s k ∧ s k ≤ 99) ∧ (∀ (Y : Nat → Nat → Int) (c : Nat), AgB Y Z → c ≤ 200 → ∃ Y', pm_D (6, 0, [.ref 3, .ref 1, .int (pm_J (f : Int)), .int (pm_J (e : Int)), .ref 45, .int (pm_J (c : Int)), .null, .null, .null], [], pm_hp L Y W) = some (some (.int (pm_J ((c + m : Nat) : Int))), pm_hp L Y' W) ∧ (∀ a, a ≠ 45 → Y' a = Y a) ∧ ∀ q, Y' 45 q = if c ≤ q ∧ q < c + m ∧ q < 30 then s (q - c) else Y 45 q) ∧ (∀ (Y : Nat → Nat → Int) (c : Nat) (v4 v5 : Value), AgT Y Z → Y 190 20 = (c : Int) → c + m ≤ 200 → ∃ (Y' : Nat → Nat → Int) (w4 : Int) (w5 : Value), pm_D (126, 36, [.ref 190, .int (pm_J (e : Int)), .int (pm_J 1), .int (pm_J (f : Int)), v4, v5], [], pm_hp L Y W) = pm_D (126, 115, [.ref 190, .int (pm_J (e : Int)), .int (pm_J 1), .int (pm_J (f : Int)), .int (pm_J w4), w5], [], pm_hp L Y' W) ∧ FrT Y Y' ∧ Y' 190 20 = ((c + m : Nat) : Int) ∧ ∀ q, Y' 204 q = if c ≤ q ∧ q < c + m then s (q - c) else Y 204 q) := by
  have BC := bkC_of hB
  have BR := bkR_of hB ht
  obtain ⟨t1, t2, t3, t4⟩ := id ht
  obtain ⟨⟨b0, b1, b1'⟩, b2, b3, b4, b5, b6, b7, b8⟩ := id hB
  have he60 : e ≤ 60 := by omega
  have hrC : ∀ k : Nat, k < e → pm_r (Z 2 k) := fun k hk => by
    have := t4 k (by omega)
    have := tx_code_r (Z 199 k) (by omega) (by omega)
    omega
  have hCo : ∀ k, f ≤ k → k < e → Z 2 k = Z 199 k - 96 ∧ 1 ≤ Z 2 k ∧ Z 2 k ≤ 26 := fun k h1 h2 => by
    have q := hlet k h1 h2
    have q2 := t4 k (by omega)
    rw [q2.2.2] at q ⊢
    have := tx_let.mp q
    unfold tx_code
    rw [if_pos this]
    omega
  rcases find_text (f := f) (e := e) hB ht (by omega) he with ⟨fc, fr, fn⟩ | ⟨i, w, hi, hwn, fc, fr, fs, fst⟩
  · refine ⟨e - f + 1, fun k => if k < e - f then Z 2 (f + k) else 27, ⟨by omega, by omega⟩, fun k hk => ?_, fun Y c A hc => ?_, fun Y c v4 v5 A hy hc => ?_⟩
    · show 0 ≤ (if k < e - f then Z 2 (f + k) else 27) ∧ (if k < e - f then Z 2 (f + k) else 27) ≤ 99
      split
      · have := hCo (f + k) (by omega) (by omega)
        omega
      · omega
    · have hpo := placeOf_ag (f := f) (e := e) A L W BC (by omega) he60 hrC
      rw [fc] at hpo
      obtain ⟨Y', e1, f1, g1⟩ := l_ewC (f := f) (e := e) L W (-1) he60 (c : Int) (e - f) f Y c (by omega) (by omega) A
      refine ⟨Y', ?_, f1, fun q => ?_⟩
      · simp (disch := first | assumption | decide +kernel | omega | (split <;> omega)) only [q_6_0, q_6_1, q_6_2, q_6_3, q_6_4, q_6_7, q_6_9, q_6_11, q_6_12, q_6_15, q_6_17, q_6_19, q_6_21, q_6_24, q_6_26, q_6_28, q_6_29, q_6_30, q_6_31, q_6_34, q_6_36, q_6_37, q_6_40, q_6_43, q_6_45, q_6_47, q_6_48, q_6_49, q_6_50, q_6_53, q_6_55, q_6_56, q_6_59, q_6_62, q_6_64, q_6_65, q_6_66, q_6_67, q_6_69, q_6_71, q_6_72, q_6_76, q_6_77, q_6_80, q_6_82, q_6_84, q_6_85, q_6_88, q_6_90, q_6_91, q_6_94, q_6_97, q_6_100, q_6_103, q_6_105, q_6_107, q_6_109, q_6_112, q_6_114, q_6_115, q_6_116, pm_some, Option.toList_some, Option.toList_none, List.cons_append, List.nil_append, pm_i0, pm_i1, Nat.reduceAdd, Nat.reduceMul, Int.toNat_natCast, Int.toNat_zero, not_true_eq_false, not_false_eq_true, and_self, true_and, and_true, ↓reduceIte, Int.reduceEq, Int.reduceLT, Int.reduceLE, Int.reduceNeg, Bool.false_eq_true, hpo]
        rw [e1, show (c : Int) + ((e - f : Nat) : Int) + 1 = ((c + (e - f + 1) : Nat) : Int) by omega]
      · rw [g1 q]
        by_cases h : c ≤ q ∧ q < c + (e - f) + 1 ∧ q < 30
        · rw [if_pos h, if_pos (show c ≤ q ∧ q < c + (e - f + 1) ∧ q < 30 by omega)]
          show _ = if q - c < e - f then _ else _
          by_cases h2 : q < c + (e - f)
          · rw [if_pos h2, if_pos (show q - c < e - f by omega)]
          · rw [if_neg h2, if_neg (show ¬ q - c < e - f by omega)]
        · rw [if_neg h, if_neg (by omega)]
    · have hwb := wordBetween_ag (f := f) (e := e) A L W BR (by omega) he
      rw [fr] at hwb
      obtain ⟨Y', e1, f1, g0, g1⟩ := l_ewR (f := f) (e := e) L W (-1) he60 he BR (e - f) f Y c (by omega) (by omega) A hy
      refine ⟨Y', -1, .int (pm_J (e : Int)), ?_, f1, by rw [g0]; omega, fun q => ?_⟩
      · simp (disch := first | assumption | decide +kernel | omega | (split <;> omega)) only [q_126_0, q_126_1, q_126_2, q_126_5, q_126_6, q_126_7, q_126_8, q_126_10, q_126_13, q_126_14, q_126_16, q_126_17, q_126_20, q_126_23, q_126_26, q_126_29, q_126_30, q_126_31, q_126_34, q_126_35, q_126_36, q_126_37, q_126_38, q_126_39, q_126_42, q_126_44, q_126_46, q_126_49, q_126_50, q_126_52, q_126_55, q_126_56, q_126_57, q_126_60, q_126_62, q_126_63, q_126_66, q_126_67, q_126_68, q_126_71, q_126_73, q_126_74, q_126_77, q_126_80, q_126_81, q_126_85, q_126_86, q_126_89, q_126_90, q_126_91, q_126_94, q_126_96, q_126_97, q_126_99, q_126_100, q_126_103, q_126_106, q_126_109, q_126_110, q_126_112, q_126_116, q_126_117, q_126_120, q_126_123, q_126_124, q_126_127, q_126_128, q_126_129, q_126_130, q_126_133, q_126_134, q_126_137, q_126_138, q_126_139, q_126_141, q_126_144, q_126_145, q_126_146, q_126_149, q_126_152, q_126_153, pm_some, Option.toList_some, Option.toList_none, List.cons_append, List.nil_append, pm_i0, pm_i1, Nat.reduceAdd, Nat.reduceMul, Int.toNat_natCast, Int.toNat_zero, not_true_eq_false, not_false_eq_true, and_self, true_and, and_true, ↓reduceIte, Int.reduceEq, Int.reduceLT, Int.reduceLE, Int.reduceNeg, Bool.false_eq_true, hwb]
        exact e1
      · rw [g1 q]
        by_cases h : c ≤ q ∧ q < c + (e - f) + 1
        · rw [if_pos h, if_pos (show c ≤ q ∧ q < c + (e - f + 1) by omega)]
          show _ = if q - c < e - f then _ else _
          by_cases h2 : q < c + (e - f)
          · rw [if_pos h2, if_pos (show q - c < e - f by omega), (hCo (f + (q - c)) (by omega) (by omega)).1]
          · rw [if_neg h2, if_neg (show ¬ q - c < e - f by omega)]
        · rw [if_neg h, if_neg (by omega)]
  · obtain ⟨x1, x2, x3, x4, x5, x6, x7⟩ := b4 w hwn
    obtain ⟨y1, y2, y3, y4⟩ := id fs
    obtain ⟨j, hj, hW⟩ := b2 i (by omega)
    obtain ⟨kw1, kw2, kw3⟩ := kWord hj hW
    refine ⟨3, fun k => if k = 0 then 28 else if k = 1 then Z 202 w else Z 203 w, ⟨by omega, by omega⟩, fun k hk => ?_, fun Y c A hc => ?_, fun Y c v4 v5 A hy hc => ?_⟩
    · show 0 ≤ (if k = 0 then 28 else if k = 1 then Z 202 w else Z 203 w) ∧ (if k = 0 then 28 else if k = 1 then Z 202 w else Z 203 w) ≤ 99
      split
      · omega
      · split <;> omega
    · have hpo := placeOf_ag (f := f) (e := e) A L W BC (by omega) he60 hrC
      rw [fc] at hpo
      have hi0 : ¬ (i : Int) = -1 := by omega
      have hir : pm_r (i : Int) := by omega
      have hi20 : (i : Int) < 20 := by omega
      have p1 := c_put' c 28 L Y W (by omega)
      have p2 := c_put' (c + 1) (Z 202 w) L (pt Y c 28) W (by omega)
      have p3 := c_put' (c + 2) (Z 203 w) L (pt (pt Y c 28) (c + 1) (Z 202 w)) W (by omega)
      rw [show (((c + 1 : Nat)) : Int) = (c : Int) + 1 by omega] at p2
      rw [show (((c + 2 : Nat)) : Int) = (c : Int) + 2 by omega] at p3
      have z1 : pt Y c 28 (W i) 2 = Z 202 w := by rw [pt_row (by omega), A (W i) (by omega) (by omega)]; exact y2
      have z2 : pt (pt Y c 28) (c + 1) (Z 202 w) (W i) 3 = Z 203 w := by rw [pt_row (by omega), pt_row (by omega), A (W i) (by omega) (by omega)]; exact y3
      refine ⟨pt (pt (pt Y c 28) (c + 1) (Z 202 w)) (c + 2) (Z 203 w), ?_, fun a ha => by rw [pt_row ha, pt_row ha, pt_row ha], fun q => ?_⟩
      · simp (disch := first | assumption | decide +kernel | omega | (split <;> omega)) only [q_6_0, q_6_1, q_6_2, q_6_3, q_6_4, q_6_7, q_6_9, q_6_11, q_6_12, q_6_15, q_6_17, q_6_19, q_6_21, q_6_24, q_6_26, q_6_28, q_6_29, q_6_30, q_6_31, q_6_34, q_6_36, q_6_37, q_6_40, q_6_43, q_6_45, q_6_47, q_6_48, q_6_49, q_6_50, q_6_53, q_6_55, q_6_56, q_6_59, q_6_62, q_6_64, q_6_65, q_6_66, q_6_67, q_6_69, q_6_71, q_6_72, q_6_76, q_6_77, q_6_80, q_6_82, q_6_84, q_6_85, q_6_88, q_6_90, q_6_91, q_6_94, q_6_97, q_6_100, q_6_103, q_6_105, q_6_107, q_6_109, q_6_112, q_6_114, q_6_115, q_6_116, pm_some, Option.toList_some, Option.toList_none, List.cons_append, List.nil_append, pm_i0, pm_i1, Nat.reduceAdd, Nat.reduceMul, Int.toNat_natCast, Int.toNat_zero, not_true_eq_false, not_false_eq_true, and_self, true_and, and_true, ↓reduceIte, Int.reduceEq, Int.reduceLT, Int.reduceLE, Int.reduceNeg, Bool.false_eq_true, hpo, hi0, p1, z1, p2, z2, p3]
        rw [show (c : Int) + 3 = ((c + 3 : Nat) : Int) by omega]
      · rw [pt_at, pt_at, pt_at]
        show _ = if c ≤ q ∧ q < c + 3 ∧ q < 30 then (if q - c = 0 then 28 else if q - c = 1 then Z 202 w else Z 203 w) else _
        by_cases h : c ≤ q ∧ q < c + 3 ∧ q < 30
        · rw [if_pos h]
          rcases (show q = c ∨ q = c + 1 ∨ q = c + 2 by omega) with rfl | rfl | rfl
          · rw [if_neg (by omega), if_neg (by omega), if_pos (by omega), if_pos (by omega)]
          · rw [if_neg (by omega), if_pos (by omega), if_neg (by omega), if_pos (by omega)]
          · rw [if_pos (by omega), if_neg (by omega), if_neg (by omega)]
        · rw [if_neg h, if_neg (by omega), if_neg (by omega), if_neg (by omega)]
    · have hwb := wordBetween_ag (f := f) (e := e) A L W BR (by omega) he
      rw [fr] at hwb
      have hw0 : ¬ (w : Int) < 0 := by omega
      have hwr : pm_r (w : Int) := by omega
      have hw20 : (w : Int) < 20 := by omega
      have p1 := c_codes c 28 L Y W (by omega) hy
      have A1 : AgT (cd Y c 28) Z := A.fr FrT.code
      have p2 := c_codes (c + 1) (Z 202 w) L (cd Y c 28) W (by omega) cd_20
      have A2 : AgT (cd (cd Y c 28) (c + 1) (Z 202 w)) Z := A1.fr FrT.code
      have p3 := c_codes (c + 2) (Z 203 w) L (cd (cd Y c 28) (c + 1) (Z 202 w)) W (by omega) cd_20
      have z1 : cd Y c 28 202 w = Z 202 w := by rw [A1.2.2 202 (by omega) (by omega)]
      have z2 : cd (cd Y c 28) (c + 1) (Z 202 w) 203 w = Z 203 w := by rw [A2.2.2 203 (by omega) (by omega)]
      refine ⟨cd (cd (cd Y c 28) (c + 1) (Z 202 w)) (c + 2) (Z 203 w), (w : Int), v5, ?_, FrT.trans (FrT.trans FrT.code FrT.code) FrT.code, cd_20, fun q => ?_⟩
      · simp (disch := first | assumption | decide +kernel | omega | (split <;> omega)) only [q_126_0, q_126_1, q_126_2, q_126_5, q_126_6, q_126_7, q_126_8, q_126_10, q_126_13, q_126_14, q_126_16, q_126_17, q_126_20, q_126_23, q_126_26, q_126_29, q_126_30, q_126_31, q_126_34, q_126_35, q_126_36, q_126_37, q_126_38, q_126_39, q_126_42, q_126_44, q_126_46, q_126_49, q_126_50, q_126_52, q_126_55, q_126_56, q_126_57, q_126_60, q_126_62, q_126_63, q_126_66, q_126_67, q_126_68, q_126_71, q_126_73, q_126_74, q_126_77, q_126_80, q_126_81, q_126_85, q_126_86, q_126_89, q_126_90, q_126_91, q_126_94, q_126_96, q_126_97, q_126_99, q_126_100, q_126_103, q_126_106, q_126_109, q_126_110, q_126_112, q_126_116, q_126_117, q_126_120, q_126_123, q_126_124, q_126_127, q_126_128, q_126_129, q_126_130, q_126_133, q_126_134, q_126_137, q_126_138, q_126_139, q_126_141, q_126_144, q_126_145, q_126_146, q_126_149, q_126_152, q_126_153, pm_some, Option.toList_some, Option.toList_none, List.cons_append, List.nil_append, pm_i0, pm_i1, Nat.reduceAdd, Nat.reduceMul, Int.toNat_natCast, Int.toNat_zero, not_true_eq_false, not_false_eq_true, and_self, true_and, and_true, ↓reduceIte, Int.reduceEq, Int.reduceLT, Int.reduceLE, Int.reduceNeg, Bool.false_eq_true, hwb, hw0, p1, z1, p2, z2, p3]
      · rw [cd_at, cd_at, cd_at]
        show _ = if c ≤ q ∧ q < c + 3 then (if q - c = 0 then 28 else if q - c = 1 then Z 202 w else Z 203 w) else _
        by_cases h : c ≤ q ∧ q < c + 3
        · rw [if_pos h]
          rcases (show q = c ∨ q = c + 1 ∨ q = c + 2 by omega) with rfl | rfl | rfl
          · rw [if_neg (by omega), if_neg (by omega), if_pos (by omega), if_pos (by omega)]
          · rw [if_neg (by omega), if_pos (by omega), if_neg (by omega), if_pos (by omega)]
          · rw [if_pos (by omega), if_neg (by omega), if_neg (by omega)]
        · rw [if_neg h, if_neg (by omega), if_neg (by omega), if_neg (by omega)]
