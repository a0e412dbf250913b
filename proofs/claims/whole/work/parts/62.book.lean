/-! looking into the code book -/
noncomputable def bi (P : Prop) : Int := @ite Int P (Classical.propDecidable P) 1 0
theorem bi_pos {P : Prop} (h : P) : bi P = 1 := by
  unfold bi
  exact if_pos h
theorem bi_neg {P : Prop} (h : ¬ P) : bi P = 0 := by
  unfold bi
  exact if_neg h
/-- the first of k .. k+n-1 with P, or -1 -/
noncomputable def fi (P : Nat → Prop) : Nat → Nat → Int
  | 0, _ => -1
  | n + 1, k => @ite Int (P k) (Classical.propDecidable (P k)) (k : Int) (fi P n (k + 1))
theorem fi_pos {P : Nat → Prop} {n k : Nat} (h : P k) : fi P (n + 1) k = (k : Int) := by
  unfold fi
  exact if_pos h
theorem fi_neg {P : Nat → Prop} {n k : Nat} (h : ¬ P k) : fi P (n + 1) k = fi P n (k + 1) := by
  rw [fi]
  exact if_neg h
theorem fi_spec (P : Nat → Prop) : ∀ n k : Nat, (fi P n k = -1 ∧ ∀ j, k ≤ j → j < k + n → ¬ P j) ∨ (∃ j : Nat, k ≤ j ∧ j < k + n ∧ fi P n k = (j : Int) ∧ P j)
  | 0, k => Or.inl ⟨rfl, fun j h1 h2 => by omega⟩
  | n + 1, k => by
    by_cases h : P k
    · exact Or.inr ⟨k, Nat.le_refl _, by omega, fi_pos h, h⟩
    · rw [fi_neg h]
      rcases fi_spec P n (k + 1) with ⟨h1, h2⟩ | ⟨j, h1, h2, h3, h4⟩
      · refine Or.inl ⟨h1, fun j q1 q2 => ?_⟩
        by_cases hjk : j = k
        · subst hjk; exact h
        · exact h2 j (by omega) (by omega)
      · exact Or.inr ⟨j, by omega, by omega, h3, h4⟩
def standC (Z : Nat → Nat → Int) (w f e : Nat) : Prop := (e : Int) - f = Z w 1 ∧ ∀ k : Nat, (k : Int) < Z w 1 → Z 2 (f + k) = Z (w + 1) k
def standR (Z : Nat → Nat → Int) (w f e : Nat) : Prop := Z 200 w = (e : Int) - f ∧ ∀ k : Nat, (k : Int) < (e : Int) - f → Z 201 (10 * w + k) = Z 199 (f + k) - 96
theorem kWord {w j : Nat} (hj : j < 20) (hw : w = 5 + 2 * j) : pm_kd w = 7 ∧ pm_kd (w + 1) = 11 ∧ pm_ln (w + 1) = 10 := by
  subst hw
  exact (by decide +kernel : ∀ j, j < 20 → pm_kd (5 + 2 * j) = 7 ∧ pm_kd (5 + 2 * j + 1) = 11 ∧ pm_ln (5 + 2 * j + 1) = 10) j hj
theorem l_stands {w f e : Nat} (L : Nat) (Z : Nat → Nat → Int) (W : Nat → Nat) (k1 : pm_kd w = 7) (k2 : pm_kd (w + 1) = 11) (k3 : pm_ln (w + 1) = 10) (hfe : f ≤ e) (he : e ≤ 60) (hl : (e : Int) - f = Z w 1) (h10 : Z w 1 ≤ 10) (hr1 : ∀ k : Nat, (k : Int) < Z w 1 → pm_r (Z (w + 1) k)) (hr2 : ∀ k : Nat, k < e → pm_r (Z 2 k)) : ∀ n k : Nat, (k : Int) + n = Z w 1 → (∀ j : Nat, j < k → Z 2 (f + j) = Z (w + 1) j) → pm_D (73, 15, [.ref w, .ref 1, .int (pm_J (f : Int)), .int (pm_J (e : Int)), .int (pm_J (k : Int))], [], pm_hp L Z W) = some (some (.int (pm_J (bi (standC Z w f e)))), pm_hp L Z W) := by
  intro n
  induction n with
  | zero =>
    intro k hk hq
    have hlt : ¬ (k : Int) < Z w 1 := by omega
    rw [bi_pos (show standC Z w f e from ⟨hl, fun j hj => hq j (by omega)⟩), q_73_15]
    simp (disch := first | assumption | decide +kernel | omega | (split <;> omega)) only [q_73_0, q_73_1, q_73_2, q_73_3, q_73_4, q_73_7, q_73_10, q_73_11, q_73_12, q_73_13, q_73_17, q_73_18, q_73_21, q_73_24, q_73_25, q_73_28, q_73_29, q_73_31, q_73_32, q_73_33, q_73_34, q_73_37, q_73_39, q_73_40, q_73_43, q_73_44, q_73_45, q_73_48, q_73_51, q_73_52, pm_some, Option.toList_some, Option.toList_none, List.cons_append, List.nil_append, pm_i0, pm_i1, Nat.reduceAdd, Nat.reduceMul, Int.toNat_natCast, Int.toNat_zero, not_true_eq_false, not_false_eq_true, and_self, true_and, and_true, ↓reduceIte, Int.reduceEq, Int.reduceLT, Int.reduceLE, Int.reduceNeg, Bool.false_eq_true, hlt]
  | succ n ih =>
    intro k hk hq
    have hlt : (k : Int) < Z w 1 := by omega
    have e1 : ((f : Int) + (k : Int)).toNat = f + k := by omega
    have r1 := hr1 k hlt
    have r2 := hr2 (f + k) (by omega)
    have hb : (f : Int) + (k : Int) < 60 := by omega
    by_cases c : Z 2 (f + k) = Z (w + 1) k
    · have h := ih (k + 1) (by omega) (fun j hj => by
        by_cases hjk : j = k
        · subst hjk; exact c
        · exact hq j (by omega))
      rw [show (((k + 1 : Nat)) : Int) = (k : Int) + 1 by omega] at h
      rw [q_73_15]
      simp (disch := first | assumption | decide +kernel | omega | (split <;> omega)) only [q_73_0, q_73_1, q_73_2, q_73_3, q_73_4, q_73_7, q_73_10, q_73_11, q_73_12, q_73_13, q_73_17, q_73_18, q_73_21, q_73_24, q_73_25, q_73_28, q_73_29, q_73_31, q_73_32, q_73_33, q_73_34, q_73_37, q_73_39, q_73_40, q_73_43, q_73_44, q_73_45, q_73_48, q_73_51, q_73_52, pm_some, Option.toList_some, Option.toList_none, List.cons_append, List.nil_append, pm_i0, pm_i1, Nat.reduceAdd, Nat.reduceMul, Int.toNat_natCast, Int.toNat_zero, not_true_eq_false, not_false_eq_true, and_self, true_and, and_true, ↓reduceIte, Int.reduceEq, Int.reduceLT, Int.reduceLE, Int.reduceNeg, Bool.false_eq_true, hlt, e1, c, h]
    · rw [bi_neg (fun q : standC Z w f e => c (q.2 k hlt)), q_73_15]
      simp (disch := first | assumption | decide +kernel | omega | (split <;> omega)) only [q_73_0, q_73_1, q_73_2, q_73_3, q_73_4, q_73_7, q_73_10, q_73_11, q_73_12, q_73_13, q_73_17, q_73_18, q_73_21, q_73_24, q_73_25, q_73_28, q_73_29, q_73_31, q_73_32, q_73_33, q_73_34, q_73_37, q_73_39, q_73_40, q_73_43, q_73_44, q_73_45, q_73_48, q_73_51, q_73_52, pm_some, Option.toList_some, Option.toList_none, List.cons_append, List.nil_append, pm_i0, pm_i1, Nat.reduceAdd, Nat.reduceMul, Int.toNat_natCast, Int.toNat_zero, not_true_eq_false, not_false_eq_true, and_self, true_and, and_true, ↓reduceIte, Int.reduceEq, Int.reduceLT, Int.reduceLE, Int.reduceNeg, Bool.false_eq_true, hlt, e1, c]
theorem c_stands {w f e : Nat} (L : Nat) (Z : Nat → Nat → Int) (W : Nat → Nat) (k1 : pm_kd w = 7) (k2 : pm_kd (w + 1) = 11) (k3 : pm_ln (w + 1) = 10) (hfe : f ≤ e) (he : e ≤ 60) (h0 : 0 ≤ Z w 1) (h10 : Z w 1 ≤ 10) (hr1 : ∀ k : Nat, (k : Int) < Z w 1 → pm_r (Z (w + 1) k)) (hr2 : ∀ k : Nat, k < e → pm_r (Z 2 k)) : pm_D (73, 0, [.ref w, .ref 1, .int (pm_J (f : Int)), .int (pm_J (e : Int)), .null], [], pm_hp L Z W) = some (some (.int (pm_J (bi (standC Z w f e)))), pm_hp L Z W) := by
  by_cases hl : (e : Int) - f = Z w 1
  · have h := l_stands L Z W k1 k2 k3 hfe he hl h10 hr1 hr2 (Z w 1).toNat 0 (by omega) (fun j hj => by omega)
    rw [show (((0 : Nat)) : Int) = 0 from rfl] at h
    simp (disch := first | assumption | decide +kernel | omega | (split <;> omega)) only [q_73_0, q_73_1, q_73_2, q_73_3, q_73_4, q_73_7, q_73_10, q_73_11, q_73_12, q_73_13, q_73_17, q_73_18, q_73_21, q_73_24, q_73_25, q_73_28, q_73_29, q_73_31, q_73_32, q_73_33, q_73_34, q_73_37, q_73_39, q_73_40, q_73_43, q_73_44, q_73_45, q_73_48, q_73_51, q_73_52, pm_some, Option.toList_some, Option.toList_none, List.cons_append, List.nil_append, pm_i0, pm_i1, Nat.reduceAdd, Nat.reduceMul, Int.toNat_natCast, Int.toNat_zero, not_true_eq_false, not_false_eq_true, and_self, true_and, and_true, ↓reduceIte, Int.reduceEq, Int.reduceLT, Int.reduceLE, Int.reduceNeg, Bool.false_eq_true, hl]
    exact h
  · rw [bi_neg (fun q : standC Z w f e => hl q.1)]
    simp (disch := first | assumption | decide +kernel | omega | (split <;> omega)) only [q_73_0, q_73_1, q_73_2, q_73_3, q_73_4, q_73_7, q_73_10, q_73_11, q_73_12, q_73_13, q_73_17, q_73_18, q_73_21, q_73_24, q_73_25, q_73_28, q_73_29, q_73_31, q_73_32, q_73_33, q_73_34, q_73_37, q_73_39, q_73_40, q_73_43, q_73_44, q_73_45, q_73_48, q_73_51, q_73_52, pm_some, Option.toList_some, Option.toList_none, List.cons_append, List.nil_append, pm_i0, pm_i1, Nat.reduceAdd, Nat.reduceMul, Int.toNat_natCast, Int.toNat_zero, not_true_eq_false, not_false_eq_true, and_self, true_and, and_true, ↓reduceIte, Int.reduceEq, Int.reduceLT, Int.reduceLE, Int.reduceNeg, Bool.false_eq_true, hl]
/-- the class's book and text can be looked at -/
def bkC (Z : Nat → Nat → Int) (W : Nat → Nat) : Prop := (0 ≤ Z 3 1 ∧ Z 3 1 ≤ 20) ∧ (∀ i, i < 20 → ∃ j, j < 20 ∧ W i = 5 + 2 * j) ∧ (∀ i : Nat, (i : Int) < Z 3 1 → (0 ≤ Z (W i) 1 ∧ Z (W i) 1 ≤ 10) ∧ (30 ≤ Z (W i) 2 ∧ Z (W i) 2 ≤ 95 ∧ 30 ≤ Z (W i) 3 ∧ Z (W i) 3 ≤ 95) ∧ ∀ k : Nat, (k : Int) < Z (W i) 1 → 1 ≤ Z (W i + 1) k ∧ Z (W i + 1) k ≤ 26)
theorem l_placeOf {f e : Nat} (L : Nat) (Z : Nat → Nat → Int) (W : Nat → Nat) (B : bkC Z W) (hfe : f ≤ e) (he : e ≤ 60) (hr2 : ∀ k : Nat, k < e → pm_r (Z 2 k)) : ∀ n k : Nat, (k : Int) + n = Z 3 1 → pm_D (1, 3, [.ref 3, .ref 1, .int (pm_J (f : Int)), .int (pm_J (e : Int)), .int (pm_J (k : Int))], [], pm_hp L Z W) = some (some (.int (pm_J (fi (fun i => standC Z (W i) f e) n k))), pm_hp L Z W) := by
  obtain ⟨⟨b0, b1⟩, b2, b3⟩ := B
  intro n
  induction n with
  | zero =>
    intro k hk
    have hlt : ¬ (k : Int) < Z 3 1 := by omega
    rw [q_1_3]
    simp (disch := first | assumption | decide +kernel | omega | (split <;> omega)) only [q_1_0, q_1_1, q_1_5, q_1_6, q_1_9, q_1_12, q_1_13, q_1_16, q_1_18, q_1_19, q_1_20, q_1_21, q_1_22, q_1_25, q_1_28, q_1_30, q_1_31, q_1_34, q_1_37, q_1_38, pm_some, Option.toList_some, Option.toList_none, List.cons_append, List.nil_append, pm_i0, pm_i1, Nat.reduceAdd, Nat.reduceMul, Int.toNat_natCast, Int.toNat_zero, not_true_eq_false, not_false_eq_true, and_self, true_and, and_true, ↓reduceIte, Int.reduceEq, Int.reduceLT, Int.reduceLE, Int.reduceNeg, Bool.false_eq_true, hlt]
    rfl
  | succ n ih =>
    intro k hk
    have hlt : (k : Int) < Z 3 1 := by omega
    obtain ⟨j, hj, hW⟩ := b2 k (by omega)
    obtain ⟨k1, k2, k3⟩ := kWord hj hW
    obtain ⟨⟨w0, w1⟩, -, w2⟩ := b3 k hlt
    have hs := c_stands L Z W k1 k2 k3 hfe he w0 w1 (fun q hq => by have := w2 q hq; omega) hr2
    have h := ih (k + 1) (by omega)
    rw [show (((k + 1 : Nat)) : Int) = (k : Int) + 1 by omega] at h
    by_cases c : standC Z (W k) f e
    · rw [bi_pos c] at hs
      rw [fi_pos (P := fun i => standC Z (W i) f e) c, q_1_3]
      simp (disch := first | assumption | decide +kernel | omega | (split <;> omega)) only [q_1_0, q_1_1, q_1_5, q_1_6, q_1_9, q_1_12, q_1_13, q_1_16, q_1_18, q_1_19, q_1_20, q_1_21, q_1_22, q_1_25, q_1_28, q_1_30, q_1_31, q_1_34, q_1_37, q_1_38, pm_some, Option.toList_some, Option.toList_none, List.cons_append, List.nil_append, pm_i0, pm_i1, Nat.reduceAdd, Nat.reduceMul, Int.toNat_natCast, Int.toNat_zero, not_true_eq_false, not_false_eq_true, and_self, true_and, and_true, ↓reduceIte, Int.reduceEq, Int.reduceLT, Int.reduceLE, Int.reduceNeg, Bool.false_eq_true, hlt, hs]
    · rw [bi_neg c] at hs
      rw [fi_neg (P := fun i => standC Z (W i) f e) c, q_1_3]
      simp (disch := first | assumption | decide +kernel | omega | (split <;> omega)) only [q_1_0, q_1_1, q_1_5, q_1_6, q_1_9, q_1_12, q_1_13, q_1_16, q_1_18, q_1_19, q_1_20, q_1_21, q_1_22, q_1_25, q_1_28, q_1_30, q_1_31, q_1_34, q_1_37, q_1_38, pm_some, Option.toList_some, Option.toList_none, List.cons_append, List.nil_append, pm_i0, pm_i1, Nat.reduceAdd, Nat.reduceMul, Int.toNat_natCast, Int.toNat_zero, not_true_eq_false, not_false_eq_true, and_self, true_and, and_true, ↓reduceIte, Int.reduceEq, Int.reduceLT, Int.reduceLE, Int.reduceNeg, Bool.false_eq_true, hlt, hs, h]
theorem c_placeOf {f e : Nat} (L : Nat) (Z : Nat → Nat → Int) (W : Nat → Nat) (B : bkC Z W) (hfe : f ≤ e) (he : e ≤ 60) (hr2 : ∀ k : Nat, k < e → pm_r (Z 2 k)) : pm_D (1, 0, [.ref 3, .ref 1, .int (pm_J (f : Int)), .int (pm_J (e : Int)), .null], [], pm_hp L Z W) = some (some (.int (pm_J (fi (fun i => standC Z (W i) f e) (Z 3 1).toNat 0))), pm_hp L Z W) := by
  have h := l_placeOf L Z W B hfe he hr2 (Z 3 1).toNat 0 (by have := B.1; omega)
  rw [q_1_0, q_1_1]
  exact h
theorem l_placeAt (p r : Int) (L : Nat) (Z : Nat → Nat → Int) (W : Nat → Nat) (hp : pm_r p) (hr : pm_r r) (B : bkC Z W) : ∀ n k : Nat, (k : Int) + n = Z 3 1 → pm_D (2, 2, [.ref 3, .int (pm_J p), .int (pm_J r), .int (pm_J (k : Int))], [], pm_hp L Z W) = some (some (.int (pm_J (fi (fun i => Z (W i) 2 = p ∧ Z (W i) 3 = r) n k))), pm_hp L Z W) := by
  obtain ⟨⟨b0, b1⟩, b2, b3⟩ := B
  intro n
  induction n with
  | zero =>
    intro k hk
    have hlt : ¬ (k : Int) < Z 3 1 := by omega
    rw [q_2_2]
    simp (disch := first | assumption | decide +kernel | omega | (split <;> omega)) only [q_2_0, q_2_1, q_2_3, q_2_4, q_2_7, q_2_10, q_2_11, q_2_14, q_2_15, q_2_16, q_2_19, q_2_20, q_2_23, q_2_24, q_2_27, q_2_28, q_2_29, q_2_32, q_2_33, q_2_36, q_2_37, q_2_38, q_2_41, q_2_44, q_2_45, pm_some, Option.toList_some, Option.toList_none, List.cons_append, List.nil_append, pm_i0, pm_i1, Nat.reduceAdd, Nat.reduceMul, Int.toNat_natCast, Int.toNat_zero, not_true_eq_false, not_false_eq_true, and_self, true_and, and_true, ↓reduceIte, Int.reduceEq, Int.reduceLT, Int.reduceLE, Int.reduceNeg, Bool.false_eq_true, hlt]
    rfl
  | succ n ih =>
    intro k hk
    have hlt : (k : Int) < Z 3 1 := by omega
    obtain ⟨j, hj, hW⟩ := b2 k (by omega)
    obtain ⟨k1, k2, k3⟩ := kWord hj hW
    obtain ⟨-, w1, -⟩ := b3 k hlt
    have h := ih (k + 1) (by omega)
    rw [show (((k + 1 : Nat)) : Int) = (k : Int) + 1 by omega] at h
    by_cases c : Z (W k) 2 = p
    · by_cases c' : Z (W k) 3 = r
      · rw [fi_pos (P := fun i => Z (W i) 2 = p ∧ Z (W i) 3 = r) ⟨c, c'⟩, q_2_2]
        simp (disch := first | assumption | decide +kernel | omega | (split <;> omega)) only [q_2_0, q_2_1, q_2_3, q_2_4, q_2_7, q_2_10, q_2_11, q_2_14, q_2_15, q_2_16, q_2_19, q_2_20, q_2_23, q_2_24, q_2_27, q_2_28, q_2_29, q_2_32, q_2_33, q_2_36, q_2_37, q_2_38, q_2_41, q_2_44, q_2_45, pm_some, Option.toList_some, Option.toList_none, List.cons_append, List.nil_append, pm_i0, pm_i1, Nat.reduceAdd, Nat.reduceMul, Int.toNat_natCast, Int.toNat_zero, not_true_eq_false, not_false_eq_true, and_self, true_and, and_true, ↓reduceIte, Int.reduceEq, Int.reduceLT, Int.reduceLE, Int.reduceNeg, Bool.false_eq_true, hlt, c, c']
      · rw [fi_neg (P := fun i => Z (W i) 2 = p ∧ Z (W i) 3 = r) (fun q => c' q.2), q_2_2]
        simp (disch := first | assumption | decide +kernel | omega | (split <;> omega)) only [q_2_0, q_2_1, q_2_3, q_2_4, q_2_7, q_2_10, q_2_11, q_2_14, q_2_15, q_2_16, q_2_19, q_2_20, q_2_23, q_2_24, q_2_27, q_2_28, q_2_29, q_2_32, q_2_33, q_2_36, q_2_37, q_2_38, q_2_41, q_2_44, q_2_45, pm_some, Option.toList_some, Option.toList_none, List.cons_append, List.nil_append, pm_i0, pm_i1, Nat.reduceAdd, Nat.reduceMul, Int.toNat_natCast, Int.toNat_zero, not_true_eq_false, not_false_eq_true, and_self, true_and, and_true, ↓reduceIte, Int.reduceEq, Int.reduceLT, Int.reduceLE, Int.reduceNeg, Bool.false_eq_true, hlt, c, c', h]
    · rw [fi_neg (P := fun i => Z (W i) 2 = p ∧ Z (W i) 3 = r) (fun q => c q.1), q_2_2]
      simp (disch := first | assumption | decide +kernel | omega | (split <;> omega)) only [q_2_0, q_2_1, q_2_3, q_2_4, q_2_7, q_2_10, q_2_11, q_2_14, q_2_15, q_2_16, q_2_19, q_2_20, q_2_23, q_2_24, q_2_27, q_2_28, q_2_29, q_2_32, q_2_33, q_2_36, q_2_37, q_2_38, q_2_41, q_2_44, q_2_45, pm_some, Option.toList_some, Option.toList_none, List.cons_append, List.nil_append, pm_i0, pm_i1, Nat.reduceAdd, Nat.reduceMul, Int.toNat_natCast, Int.toNat_zero, not_true_eq_false, not_false_eq_true, and_self, true_and, and_true, ↓reduceIte, Int.reduceEq, Int.reduceLT, Int.reduceLE, Int.reduceNeg, Bool.false_eq_true, hlt, c, h]
theorem c_placeAt (p r : Int) (L : Nat) (Z : Nat → Nat → Int) (W : Nat → Nat) (hp : pm_r p) (hr : pm_r r) (B : bkC Z W) : pm_D (2, 0, [.ref 3, .int (pm_J p), .int (pm_J r), .null], [], pm_hp L Z W) = some (some (.int (pm_J (fi (fun i => Z (W i) 2 = p ∧ Z (W i) 3 = r) (Z 3 1).toNat 0))), pm_hp L Z W) := by
  have h := l_placeAt p r L Z W hp hr B (Z 3 1).toNat 0 (by have := B.1; omega)
  rw [q_2_0, q_2_1]
  exact h
/-- the model's book and text can be looked at -/
def bkR (Z : Nat → Nat → Int) : Prop := (0 ≤ Z 190 15 ∧ Z 190 15 ≤ 20) ∧ (0 ≤ Z 190 13 ∧ Z 190 13 ≤ 60) ∧ (∀ w : Nat, (w : Int) < Z 190 15 → bk_w Z w) ∧ (∀ i : Nat, (i : Int) < Z 190 13 → 0 ≤ Z 199 i ∧ Z 199 i < 65536)
theorem l_wb2 {f e w : Nat} (L : Nat) (Z : Nat → Nat → Int) (W : Nat → Nat) (B : bkR Z) (hfe : f ≤ e) (he : (e : Int) ≤ Z 190 13) (hw : (w : Int) < Z 190 15) (hl : Z 200 w = (e : Int) - f) : ∀ n j : Nat, f ≤ j → j + n = e → (∀ k : Nat, k < j - f → Z 201 (10 * w + k) = Z 199 (f + k) - 96) → ∃ k' : Int, pm_D (120, 32, [.ref 190, .int (pm_J (f : Int)), .int (pm_J (e : Int)), .int (pm_J (w : Int)), .int (pm_J 1), .int (pm_J (j : Int))], [], pm_hp L Z W) = pm_D (120, 83, [.ref 190, .int (pm_J (f : Int)), .int (pm_J (e : Int)), .int (pm_J (w : Int)), .int (pm_J (bi (standR Z w f e))), .int (pm_J k')], [], pm_hp L Z W) := by
  obtain ⟨⟨b0, b1⟩, ⟨b2, b3⟩, b4, b5⟩ := B
  obtain ⟨w1, w2, w3, w4, w5, w6, w7⟩ := b4 w hw
  intro n
  induction n with
  | zero =>
    intro j hfj hk hq
    obtain rfl : j = e := by omega
    refine ⟨(j : Int), ?_⟩
    have hjr : pm_r (j : Int) := by omega
    rw [bi_pos (show standR Z w f j from ⟨hl, fun k hk => hq k (by omega)⟩), q_120_32]
    simp (disch := first | assumption | decide +kernel | omega | (split <;> omega)) only [q_120_0, q_120_1, q_120_2, q_120_3, q_120_4, q_120_7, q_120_10, q_120_11, q_120_14, q_120_15, q_120_16, q_120_17, q_120_18, q_120_19, q_120_22, q_120_23, q_120_26, q_120_27, q_120_29, q_120_30, q_120_34, q_120_35, q_120_38, q_120_40, q_120_43, q_120_44, q_120_47, q_120_49, q_120_50, q_120_51, q_120_53, q_120_54, q_120_55, q_120_56, q_120_57, q_120_58, q_120_61, q_120_63, q_120_64, q_120_66, q_120_67, q_120_70, q_120_71, q_120_74, q_120_75, q_120_77, q_120_80, q_120_85, q_120_88, q_120_89, q_120_90, q_120_93, q_120_96, q_120_97, pm_some, Option.toList_some, Option.toList_none, List.cons_append, List.nil_append, pm_i0, pm_i1, Nat.reduceAdd, Nat.reduceMul, Int.toNat_natCast, Int.toNat_zero, not_true_eq_false, not_false_eq_true, and_self, true_and, and_true, ↓reduceIte, Int.reduceEq, Int.reduceLT, Int.reduceLE, Int.reduceNeg, Bool.false_eq_true, Int.lt_irrefl]
  | succ n ih =>
    intro j hfj hk hq
    have hlt : (j : Int) < (e : Int) := by omega
    have e1 : (10 * (w : Int) + (j : Int) - (f : Int)).toNat = 10 * w + (j - f) := by omega
    have r1 := w7 (j - f) (by omega)
    have r2 := b5 j (by omega)
    have hj60 : (j : Int) < 60 := by omega
    have hx1 : 0 ≤ 10 * (w : Int) + (j : Int) - (f : Int) := by omega
    have hx2 : 10 * (w : Int) + (j : Int) - (f : Int) < 200 := by omega
    have rr : pm_r (Z 201 (10 * w + (j - f))) := by omega
    have rr2 : pm_r (Z 199 j - 96) := by omega
    by_cases c : Z 201 (10 * w + (j - f)) = Z 199 j - 96
    · obtain ⟨k', h⟩ := ih (j + 1) (by omega) (by omega) (fun k hk => by
        by_cases hkj : k = j - f
        · subst hkj
          rw [show f + (j - f) = j by omega]
          exact c
        · exact hq k (by omega))
      rw [show (((j + 1 : Nat)) : Int) = (j : Int) + 1 by omega] at h
      refine ⟨k', ?_⟩
      rw [q_120_32]
      simp (disch := first | assumption | decide +kernel | omega | (split <;> omega)) only [q_120_0, q_120_1, q_120_2, q_120_3, q_120_4, q_120_7, q_120_10, q_120_11, q_120_14, q_120_15, q_120_16, q_120_17, q_120_18, q_120_19, q_120_22, q_120_23, q_120_26, q_120_27, q_120_29, q_120_30, q_120_34, q_120_35, q_120_38, q_120_40, q_120_43, q_120_44, q_120_47, q_120_49, q_120_50, q_120_51, q_120_53, q_120_54, q_120_55, q_120_56, q_120_57, q_120_58, q_120_61, q_120_63, q_120_64, q_120_66, q_120_67, q_120_70, q_120_71, q_120_74, q_120_75, q_120_77, q_120_80, q_120_85, q_120_88, q_120_89, q_120_90, q_120_93, q_120_96, q_120_97, pm_some, Option.toList_some, Option.toList_none, List.cons_append, List.nil_append, pm_i0, pm_i1, Nat.reduceAdd, Nat.reduceMul, Int.toNat_natCast, Int.toNat_zero, not_true_eq_false, not_false_eq_true, and_self, true_and, and_true, ↓reduceIte, Int.reduceEq, Int.reduceLT, Int.reduceLE, Int.reduceNeg, Bool.false_eq_true, hlt, e1, c, h]
    · refine ⟨(j : Int) + 1, ?_⟩
      rw [bi_neg (fun q : standR Z w f e => c (by have := q.2 (j - f) (by omega); rw [show f + (j - f) = j by omega] at this; exact this)), q_120_32]
      by_cases hlt2 : (j : Int) + 1 < (e : Int)
      · simp (disch := first | assumption | decide +kernel | omega | (split <;> omega)) only [q_120_0, q_120_1, q_120_2, q_120_3, q_120_4, q_120_7, q_120_10, q_120_11, q_120_14, q_120_15, q_120_16, q_120_17, q_120_18, q_120_19, q_120_22, q_120_23, q_120_26, q_120_27, q_120_29, q_120_30, q_120_34, q_120_35, q_120_38, q_120_40, q_120_43, q_120_44, q_120_47, q_120_49, q_120_50, q_120_51, q_120_53, q_120_54, q_120_55, q_120_56, q_120_57, q_120_58, q_120_61, q_120_63, q_120_64, q_120_66, q_120_67, q_120_70, q_120_71, q_120_74, q_120_75, q_120_77, q_120_80, q_120_85, q_120_88, q_120_89, q_120_90, q_120_93, q_120_96, q_120_97, pm_some, Option.toList_some, Option.toList_none, List.cons_append, List.nil_append, pm_i0, pm_i1, Nat.reduceAdd, Nat.reduceMul, Int.toNat_natCast, Int.toNat_zero, not_true_eq_false, not_false_eq_true, and_self, true_and, and_true, ↓reduceIte, Int.reduceEq, Int.reduceLT, Int.reduceLE, Int.reduceNeg, Bool.false_eq_true, hlt, e1, c]
        rw [q_120_32]
        simp (disch := first | assumption | decide +kernel | omega | (split <;> omega)) only [q_120_0, q_120_1, q_120_2, q_120_3, q_120_4, q_120_7, q_120_10, q_120_11, q_120_14, q_120_15, q_120_16, q_120_17, q_120_18, q_120_19, q_120_22, q_120_23, q_120_26, q_120_27, q_120_29, q_120_30, q_120_34, q_120_35, q_120_38, q_120_40, q_120_43, q_120_44, q_120_47, q_120_49, q_120_50, q_120_51, q_120_53, q_120_54, q_120_55, q_120_56, q_120_57, q_120_58, q_120_61, q_120_63, q_120_64, q_120_66, q_120_67, q_120_70, q_120_71, q_120_74, q_120_75, q_120_77, q_120_80, q_120_85, q_120_88, q_120_89, q_120_90, q_120_93, q_120_96, q_120_97, pm_some, Option.toList_some, Option.toList_none, List.cons_append, List.nil_append, pm_i0, pm_i1, Nat.reduceAdd, Nat.reduceMul, Int.toNat_natCast, Int.toNat_zero, not_true_eq_false, not_false_eq_true, and_self, true_and, and_true, ↓reduceIte, Int.reduceEq, Int.reduceLT, Int.reduceLE, Int.reduceNeg, Bool.false_eq_true, hlt2]
      · simp (disch := first | assumption | decide +kernel | omega | (split <;> omega)) only [q_120_0, q_120_1, q_120_2, q_120_3, q_120_4, q_120_7, q_120_10, q_120_11, q_120_14, q_120_15, q_120_16, q_120_17, q_120_18, q_120_19, q_120_22, q_120_23, q_120_26, q_120_27, q_120_29, q_120_30, q_120_34, q_120_35, q_120_38, q_120_40, q_120_43, q_120_44, q_120_47, q_120_49, q_120_50, q_120_51, q_120_53, q_120_54, q_120_55, q_120_56, q_120_57, q_120_58, q_120_61, q_120_63, q_120_64, q_120_66, q_120_67, q_120_70, q_120_71, q_120_74, q_120_75, q_120_77, q_120_80, q_120_85, q_120_88, q_120_89, q_120_90, q_120_93, q_120_96, q_120_97, pm_some, Option.toList_some, Option.toList_none, List.cons_append, List.nil_append, pm_i0, pm_i1, Nat.reduceAdd, Nat.reduceMul, Int.toNat_natCast, Int.toNat_zero, not_true_eq_false, not_false_eq_true, and_self, true_and, and_true, ↓reduceIte, Int.reduceEq, Int.reduceLT, Int.reduceLE, Int.reduceNeg, Bool.false_eq_true, hlt, e1, c]
        rw [q_120_32]
        simp (disch := first | assumption | decide +kernel | omega | (split <;> omega)) only [q_120_0, q_120_1, q_120_2, q_120_3, q_120_4, q_120_7, q_120_10, q_120_11, q_120_14, q_120_15, q_120_16, q_120_17, q_120_18, q_120_19, q_120_22, q_120_23, q_120_26, q_120_27, q_120_29, q_120_30, q_120_34, q_120_35, q_120_38, q_120_40, q_120_43, q_120_44, q_120_47, q_120_49, q_120_50, q_120_51, q_120_53, q_120_54, q_120_55, q_120_56, q_120_57, q_120_58, q_120_61, q_120_63, q_120_64, q_120_66, q_120_67, q_120_70, q_120_71, q_120_74, q_120_75, q_120_77, q_120_80, q_120_85, q_120_88, q_120_89, q_120_90, q_120_93, q_120_96, q_120_97, pm_some, Option.toList_some, Option.toList_none, List.cons_append, List.nil_append, pm_i0, pm_i1, Nat.reduceAdd, Nat.reduceMul, Int.toNat_natCast, Int.toNat_zero, not_true_eq_false, not_false_eq_true, and_self, true_and, and_true, ↓reduceIte, Int.reduceEq, Int.reduceLT, Int.reduceLE, Int.reduceNeg, Bool.false_eq_true, hlt2]
theorem l_wordBetween {f e : Nat} (L : Nat) (Z : Nat → Nat → Int) (W : Nat → Nat) (B : bkR Z) (hfe : f ≤ e) (he : (e : Int) ≤ Z 190 13) : ∀ (n w : Nat) (v4 v5 : Value), (w : Int) + n = Z 190 15 → pm_D (120, 2, [.ref 190, .int (pm_J (f : Int)), .int (pm_J (e : Int)), .int (pm_J (w : Int)), v4, v5], [], pm_hp L Z W) = some (some (.int (pm_J (fi (fun w => standR Z w f e) n w))), pm_hp L Z W) := by
  obtain ⟨⟨b0, b1⟩, ⟨b2, b3⟩, b4, b5⟩ := id B
  intro n
  induction n with
  | zero =>
    intro w v4 v5 hk
    have hlt : ¬ (w : Int) < Z 190 15 := by omega
    rw [q_120_2]
    simp (disch := first | assumption | decide +kernel | omega | (split <;> omega)) only [q_120_0, q_120_1, q_120_3, q_120_4, q_120_7, q_120_10, q_120_11, q_120_14, q_120_15, q_120_16, q_120_17, q_120_18, q_120_19, q_120_22, q_120_23, q_120_26, q_120_27, q_120_29, q_120_30, q_120_34, q_120_35, q_120_38, q_120_40, q_120_43, q_120_44, q_120_47, q_120_49, q_120_50, q_120_51, q_120_53, q_120_54, q_120_55, q_120_56, q_120_57, q_120_58, q_120_61, q_120_63, q_120_64, q_120_66, q_120_67, q_120_70, q_120_71, q_120_74, q_120_75, q_120_77, q_120_80, q_120_83, q_120_85, q_120_88, q_120_89, q_120_90, q_120_93, q_120_96, q_120_97, pm_some, Option.toList_some, Option.toList_none, List.cons_append, List.nil_append, pm_i0, pm_i1, Nat.reduceAdd, Nat.reduceMul, Int.toNat_natCast, Int.toNat_zero, not_true_eq_false, not_false_eq_true, and_self, true_and, and_true, ↓reduceIte, Int.reduceEq, Int.reduceLT, Int.reduceLE, Int.reduceNeg, Bool.false_eq_true, hlt]
    rfl
  | succ n ih =>
    intro w v4 v5 hk
    have hlt : (w : Int) < Z 190 15 := by omega
    obtain ⟨w1, w2, -⟩ := b4 w hlt
    have hfr : pm_r (f : Int) := by omega
    have her : pm_r (e : Int) := by omega
    have hef : pm_r ((e : Int) - (f : Int)) := by omega
    by_cases hl : Z 200 w = (e : Int) - f
    · obtain ⟨k', h2⟩ := l_wb2 L Z W B hfe he hlt hl (e - f) f (Nat.le_refl _) (by omega) (fun k hk => by omega)
      by_cases c : standR Z w f e
      · rw [bi_pos c] at h2
        have h83 : pm_D (120, 83, [.ref 190, .int (pm_J (f : Int)), .int (pm_J (e : Int)), .int (pm_J (w : Int)), .int (pm_J 1), .int (pm_J k')], [], pm_hp L Z W) = some (some (.int (pm_J (w : Int))), pm_hp L Z W) := by
          simp (disch := first | assumption | decide +kernel | omega | (split <;> omega)) only [q_120_0, q_120_1, q_120_3, q_120_4, q_120_7, q_120_10, q_120_11, q_120_14, q_120_15, q_120_16, q_120_17, q_120_18, q_120_19, q_120_22, q_120_23, q_120_26, q_120_27, q_120_29, q_120_30, q_120_34, q_120_35, q_120_38, q_120_40, q_120_43, q_120_44, q_120_47, q_120_49, q_120_50, q_120_51, q_120_53, q_120_54, q_120_55, q_120_56, q_120_57, q_120_58, q_120_61, q_120_63, q_120_64, q_120_66, q_120_67, q_120_70, q_120_71, q_120_74, q_120_75, q_120_77, q_120_80, q_120_83, q_120_85, q_120_88, q_120_89, q_120_90, q_120_93, q_120_96, q_120_97, pm_some, Option.toList_some, Option.toList_none, List.cons_append, List.nil_append, pm_i0, pm_i1, Nat.reduceAdd, Nat.reduceMul, Int.toNat_natCast, Int.toNat_zero, not_true_eq_false, not_false_eq_true, and_self, true_and, and_true, ↓reduceIte, Int.reduceEq, Int.reduceLT, Int.reduceLE, Int.reduceNeg, Bool.false_eq_true]
        rw [fi_pos (P := fun w => standR Z w f e) c, q_120_2]
        simp (disch := first | assumption | decide +kernel | omega | (split <;> omega)) only [q_120_0, q_120_1, q_120_3, q_120_4, q_120_7, q_120_10, q_120_11, q_120_14, q_120_15, q_120_16, q_120_17, q_120_18, q_120_19, q_120_22, q_120_23, q_120_26, q_120_27, q_120_29, q_120_30, q_120_34, q_120_35, q_120_38, q_120_40, q_120_43, q_120_44, q_120_47, q_120_49, q_120_50, q_120_51, q_120_53, q_120_54, q_120_55, q_120_56, q_120_57, q_120_58, q_120_61, q_120_63, q_120_64, q_120_66, q_120_67, q_120_70, q_120_71, q_120_74, q_120_75, q_120_77, q_120_80, q_120_83, q_120_85, q_120_88, q_120_89, q_120_90, q_120_93, q_120_96, q_120_97, pm_some, Option.toList_some, Option.toList_none, List.cons_append, List.nil_append, pm_i0, pm_i1, Nat.reduceAdd, Nat.reduceMul, Int.toNat_natCast, Int.toNat_zero, not_true_eq_false, not_false_eq_true, and_self, true_and, and_true, ↓reduceIte, Int.reduceEq, Int.reduceLT, Int.reduceLE, Int.reduceNeg, Bool.false_eq_true, hlt, hl]
        rw [h2]
        exact h83
      · rw [bi_neg c] at h2
        have h := ih (w + 1) (.int (pm_J 0)) (.int (pm_J k')) (by omega)
        rw [show (((w + 1 : Nat)) : Int) = (w : Int) + 1 by omega] at h
        have h83 : pm_D (120, 83, [.ref 190, .int (pm_J (f : Int)), .int (pm_J (e : Int)), .int (pm_J (w : Int)), .int (pm_J 0), .int (pm_J k')], [], pm_hp L Z W) = some (some (.int (pm_J (fi (fun w => standR Z w f e) n (w + 1)))), pm_hp L Z W) := by
          simp (disch := first | assumption | decide +kernel | omega | (split <;> omega)) only [q_120_0, q_120_1, q_120_3, q_120_4, q_120_7, q_120_10, q_120_11, q_120_14, q_120_15, q_120_16, q_120_17, q_120_18, q_120_19, q_120_22, q_120_23, q_120_26, q_120_27, q_120_29, q_120_30, q_120_34, q_120_35, q_120_38, q_120_40, q_120_43, q_120_44, q_120_47, q_120_49, q_120_50, q_120_51, q_120_53, q_120_54, q_120_55, q_120_56, q_120_57, q_120_58, q_120_61, q_120_63, q_120_64, q_120_66, q_120_67, q_120_70, q_120_71, q_120_74, q_120_75, q_120_77, q_120_80, q_120_83, q_120_85, q_120_88, q_120_89, q_120_90, q_120_93, q_120_96, q_120_97, pm_some, Option.toList_some, Option.toList_none, List.cons_append, List.nil_append, pm_i0, pm_i1, Nat.reduceAdd, Nat.reduceMul, Int.toNat_natCast, Int.toNat_zero, not_true_eq_false, not_false_eq_true, and_self, true_and, and_true, ↓reduceIte, Int.reduceEq, Int.reduceLT, Int.reduceLE, Int.reduceNeg, Bool.false_eq_true]
          exact h
        rw [fi_neg (P := fun w => standR Z w f e) c, q_120_2]
        simp (disch := first | assumption | decide +kernel | omega | (split <;> omega)) only [q_120_0, q_120_1, q_120_3, q_120_4, q_120_7, q_120_10, q_120_11, q_120_14, q_120_15, q_120_16, q_120_17, q_120_18, q_120_19, q_120_22, q_120_23, q_120_26, q_120_27, q_120_29, q_120_30, q_120_34, q_120_35, q_120_38, q_120_40, q_120_43, q_120_44, q_120_47, q_120_49, q_120_50, q_120_51, q_120_53, q_120_54, q_120_55, q_120_56, q_120_57, q_120_58, q_120_61, q_120_63, q_120_64, q_120_66, q_120_67, q_120_70, q_120_71, q_120_74, q_120_75, q_120_77, q_120_80, q_120_83, q_120_85, q_120_88, q_120_89, q_120_90, q_120_93, q_120_96, q_120_97, pm_some, Option.toList_some, Option.toList_none, List.cons_append, List.nil_append, pm_i0, pm_i1, Nat.reduceAdd, Nat.reduceMul, Int.toNat_natCast, Int.toNat_zero, not_true_eq_false, not_false_eq_true, and_self, true_and, and_true, ↓reduceIte, Int.reduceEq, Int.reduceLT, Int.reduceLE, Int.reduceNeg, Bool.false_eq_true, hlt, hl]
        rw [h2]
        exact h83
    · have h := ih (w + 1) (.int (pm_J 0)) (.int (pm_J (f : Int))) (by omega)
      rw [show (((w + 1 : Nat)) : Int) = (w : Int) + 1 by omega] at h
      rw [fi_neg (P := fun w => standR Z w f e) (fun q => hl q.1), q_120_2]
      by_cases hfe2 : (f : Int) < (e : Int)
      · simp (disch := first | assumption | decide +kernel | omega | (split <;> omega)) only [q_120_0, q_120_1, q_120_3, q_120_4, q_120_7, q_120_10, q_120_11, q_120_14, q_120_15, q_120_16, q_120_17, q_120_18, q_120_19, q_120_22, q_120_23, q_120_26, q_120_27, q_120_29, q_120_30, q_120_34, q_120_35, q_120_38, q_120_40, q_120_43, q_120_44, q_120_47, q_120_49, q_120_50, q_120_51, q_120_53, q_120_54, q_120_55, q_120_56, q_120_57, q_120_58, q_120_61, q_120_63, q_120_64, q_120_66, q_120_67, q_120_70, q_120_71, q_120_74, q_120_75, q_120_77, q_120_80, q_120_83, q_120_85, q_120_88, q_120_89, q_120_90, q_120_93, q_120_96, q_120_97, pm_some, Option.toList_some, Option.toList_none, List.cons_append, List.nil_append, pm_i0, pm_i1, Nat.reduceAdd, Nat.reduceMul, Int.toNat_natCast, Int.toNat_zero, not_true_eq_false, not_false_eq_true, and_self, true_and, and_true, ↓reduceIte, Int.reduceEq, Int.reduceLT, Int.reduceLE, Int.reduceNeg, Bool.false_eq_true, hlt, hl]
        rw [q_120_32]
        simp (disch := first | assumption | decide +kernel | omega | (split <;> omega)) only [q_120_0, q_120_1, q_120_3, q_120_4, q_120_7, q_120_10, q_120_11, q_120_14, q_120_15, q_120_16, q_120_17, q_120_18, q_120_19, q_120_22, q_120_23, q_120_26, q_120_27, q_120_29, q_120_30, q_120_34, q_120_35, q_120_38, q_120_40, q_120_43, q_120_44, q_120_47, q_120_49, q_120_50, q_120_51, q_120_53, q_120_54, q_120_55, q_120_56, q_120_57, q_120_58, q_120_61, q_120_63, q_120_64, q_120_66, q_120_67, q_120_70, q_120_71, q_120_74, q_120_75, q_120_77, q_120_80, q_120_83, q_120_85, q_120_88, q_120_89, q_120_90, q_120_93, q_120_96, q_120_97, pm_some, Option.toList_some, Option.toList_none, List.cons_append, List.nil_append, pm_i0, pm_i1, Nat.reduceAdd, Nat.reduceMul, Int.toNat_natCast, Int.toNat_zero, not_true_eq_false, not_false_eq_true, and_self, true_and, and_true, ↓reduceIte, Int.reduceEq, Int.reduceLT, Int.reduceLE, Int.reduceNeg, Bool.false_eq_true, hfe2]
        exact h
      · simp (disch := first | assumption | decide +kernel | omega | (split <;> omega)) only [q_120_0, q_120_1, q_120_3, q_120_4, q_120_7, q_120_10, q_120_11, q_120_14, q_120_15, q_120_16, q_120_17, q_120_18, q_120_19, q_120_22, q_120_23, q_120_26, q_120_27, q_120_29, q_120_30, q_120_34, q_120_35, q_120_38, q_120_40, q_120_43, q_120_44, q_120_47, q_120_49, q_120_50, q_120_51, q_120_53, q_120_54, q_120_55, q_120_56, q_120_57, q_120_58, q_120_61, q_120_63, q_120_64, q_120_66, q_120_67, q_120_70, q_120_71, q_120_74, q_120_75, q_120_77, q_120_80, q_120_83, q_120_85, q_120_88, q_120_89, q_120_90, q_120_93, q_120_96, q_120_97, pm_some, Option.toList_some, Option.toList_none, List.cons_append, List.nil_append, pm_i0, pm_i1, Nat.reduceAdd, Nat.reduceMul, Int.toNat_natCast, Int.toNat_zero, not_true_eq_false, not_false_eq_true, and_self, true_and, and_true, ↓reduceIte, Int.reduceEq, Int.reduceLT, Int.reduceLE, Int.reduceNeg, Bool.false_eq_true, hlt, hl]
        rw [q_120_32]
        simp (disch := first | assumption | decide +kernel | omega | (split <;> omega)) only [q_120_0, q_120_1, q_120_3, q_120_4, q_120_7, q_120_10, q_120_11, q_120_14, q_120_15, q_120_16, q_120_17, q_120_18, q_120_19, q_120_22, q_120_23, q_120_26, q_120_27, q_120_29, q_120_30, q_120_34, q_120_35, q_120_38, q_120_40, q_120_43, q_120_44, q_120_47, q_120_49, q_120_50, q_120_51, q_120_53, q_120_54, q_120_55, q_120_56, q_120_57, q_120_58, q_120_61, q_120_63, q_120_64, q_120_66, q_120_67, q_120_70, q_120_71, q_120_74, q_120_75, q_120_77, q_120_80, q_120_83, q_120_85, q_120_88, q_120_89, q_120_90, q_120_93, q_120_96, q_120_97, pm_some, Option.toList_some, Option.toList_none, List.cons_append, List.nil_append, pm_i0, pm_i1, Nat.reduceAdd, Nat.reduceMul, Int.toNat_natCast, Int.toNat_zero, not_true_eq_false, not_false_eq_true, and_self, true_and, and_true, ↓reduceIte, Int.reduceEq, Int.reduceLT, Int.reduceLE, Int.reduceNeg, Bool.false_eq_true, hfe2]
        exact h
theorem c_wordBetween {f e : Nat} (L : Nat) (Z : Nat → Nat → Int) (W : Nat → Nat) (B : bkR Z) (hfe : f ≤ e) (he : (e : Int) ≤ Z 190 13) : pm_D (120, 0, [.ref 190, .int (pm_J (f : Int)), .int (pm_J (e : Int)), .null, .null, .null], [], pm_hp L Z W) = some (some (.int (pm_J (fi (fun w => standR Z w f e) (Z 190 15).toNat 0))), pm_hp L Z W) := by
  have h := l_wordBetween L Z W B hfe he (Z 190 15).toNat 0 .null .null (by have := B.1; omega)
  rw [q_120_0, q_120_1]
  exact h
theorem l_wordBy (p r : Int) (L : Nat) (Z : Nat → Nat → Int) (W : Nat → Nat) (hp : pm_r p) (hr : pm_r r) (B : bkR Z) : ∀ n k : Nat, (k : Int) + n = Z 190 15 → pm_D (122, 2, [.ref 190, .int (pm_J p), .int (pm_J r), .int (pm_J (k : Int))], [], pm_hp L Z W) = some (some (.int (pm_J (fi (fun w => Z 202 w = p ∧ Z 203 w = r) n k))), pm_hp L Z W) := by
  obtain ⟨⟨b0, b1⟩, ⟨b2, b3⟩, b4, b5⟩ := id B
  intro n
  induction n with
  | zero =>
    intro k hk
    have hlt : ¬ (k : Int) < Z 190 15 := by omega
    rw [q_122_2]
    simp (disch := first | assumption | decide +kernel | omega | (split <;> omega)) only [q_122_0, q_122_1, q_122_3, q_122_4, q_122_7, q_122_10, q_122_11, q_122_14, q_122_15, q_122_16, q_122_17, q_122_20, q_122_21, q_122_24, q_122_25, q_122_26, q_122_27, q_122_30, q_122_31, q_122_32, q_122_35, q_122_38, q_122_39, pm_some, Option.toList_some, Option.toList_none, List.cons_append, List.nil_append, pm_i0, pm_i1, Nat.reduceAdd, Nat.reduceMul, Int.toNat_natCast, Int.toNat_zero, not_true_eq_false, not_false_eq_true, and_self, true_and, and_true, ↓reduceIte, Int.reduceEq, Int.reduceLT, Int.reduceLE, Int.reduceNeg, Bool.false_eq_true, hlt]
    rfl
  | succ n ih =>
    intro k hk
    have hlt : (k : Int) < Z 190 15 := by omega
    obtain ⟨w1, w2, w3, w4, w5, w6, w7⟩ := b4 k hlt
    have h := ih (k + 1) (by omega)
    rw [show (((k + 1 : Nat)) : Int) = (k : Int) + 1 by omega] at h
    by_cases c : Z 202 k = p
    · by_cases c' : Z 203 k = r
      · rw [fi_pos (P := fun w => Z 202 w = p ∧ Z 203 w = r) ⟨c, c'⟩, q_122_2]
        simp (disch := first | assumption | decide +kernel | omega | (split <;> omega)) only [q_122_0, q_122_1, q_122_3, q_122_4, q_122_7, q_122_10, q_122_11, q_122_14, q_122_15, q_122_16, q_122_17, q_122_20, q_122_21, q_122_24, q_122_25, q_122_26, q_122_27, q_122_30, q_122_31, q_122_32, q_122_35, q_122_38, q_122_39, pm_some, Option.toList_some, Option.toList_none, List.cons_append, List.nil_append, pm_i0, pm_i1, Nat.reduceAdd, Nat.reduceMul, Int.toNat_natCast, Int.toNat_zero, not_true_eq_false, not_false_eq_true, and_self, true_and, and_true, ↓reduceIte, Int.reduceEq, Int.reduceLT, Int.reduceLE, Int.reduceNeg, Bool.false_eq_true, hlt, c, c']
      · rw [fi_neg (P := fun w => Z 202 w = p ∧ Z 203 w = r) (fun q => c' q.2), q_122_2]
        simp (disch := first | assumption | decide +kernel | omega | (split <;> omega)) only [q_122_0, q_122_1, q_122_3, q_122_4, q_122_7, q_122_10, q_122_11, q_122_14, q_122_15, q_122_16, q_122_17, q_122_20, q_122_21, q_122_24, q_122_25, q_122_26, q_122_27, q_122_30, q_122_31, q_122_32, q_122_35, q_122_38, q_122_39, pm_some, Option.toList_some, Option.toList_none, List.cons_append, List.nil_append, pm_i0, pm_i1, Nat.reduceAdd, Nat.reduceMul, Int.toNat_natCast, Int.toNat_zero, not_true_eq_false, not_false_eq_true, and_self, true_and, and_true, ↓reduceIte, Int.reduceEq, Int.reduceLT, Int.reduceLE, Int.reduceNeg, Bool.false_eq_true, hlt, c, c', h]
    · rw [fi_neg (P := fun w => Z 202 w = p ∧ Z 203 w = r) (fun q => c q.1), q_122_2]
      simp (disch := first | assumption | decide +kernel | omega | (split <;> omega)) only [q_122_0, q_122_1, q_122_3, q_122_4, q_122_7, q_122_10, q_122_11, q_122_14, q_122_15, q_122_16, q_122_17, q_122_20, q_122_21, q_122_24, q_122_25, q_122_26, q_122_27, q_122_30, q_122_31, q_122_32, q_122_35, q_122_38, q_122_39, pm_some, Option.toList_some, Option.toList_none, List.cons_append, List.nil_append, pm_i0, pm_i1, Nat.reduceAdd, Nat.reduceMul, Int.toNat_natCast, Int.toNat_zero, not_true_eq_false, not_false_eq_true, and_self, true_and, and_true, ↓reduceIte, Int.reduceEq, Int.reduceLT, Int.reduceLE, Int.reduceNeg, Bool.false_eq_true, hlt, c, h]
theorem c_wordBy (p r : Int) (L : Nat) (Z : Nat → Nat → Int) (W : Nat → Nat) (hp : pm_r p) (hr : pm_r r) (B : bkR Z) : pm_D (122, 0, [.ref 190, .int (pm_J p), .int (pm_J r), .null], [], pm_hp L Z W) = some (some (.int (pm_J (fi (fun w => Z 202 w = p ∧ Z 203 w = r) (Z 190 15).toNat 0))), pm_hp L Z W) := by
  have h := l_wordBy p r L Z W hp hr B (Z 190 15).toNat 0 (by have := B.1; omega)
  rw [q_122_0, q_122_1]
  exact h
