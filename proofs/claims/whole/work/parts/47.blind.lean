/-! blind links -/
/-- fogs k .. k+n-1 on link l at minute t, x before -/
def md_bl (r1 r2 r3 : Nat → Int) (t l : Int) : Nat → Nat → Int → Int
  | 0, _, x => x
  | n + 1, k, x => md_bl r1 r2 r3 t l n (k + 1) (if r1 k = l ∧ r2 k ≤ t ∧ t ≤ r3 k then 1 else x)
theorem md_bl_succ (r1 r2 r3 : Nat → Int) (t l : Int) (n k : Nat) (x : Int) : md_bl r1 r2 r3 t l (n + 1) k x = md_bl r1 r2 r3 t l n (k + 1) (if r1 k = l ∧ r2 k ≤ t ∧ t ≤ r3 k then 1 else x) := rfl
theorem md_bl_congr {r1 r2 r3 s1 s2 s3 : Nat → Int} {t l : Int} : ∀ (n k : Nat) (x : Int), (∀ j, k ≤ j → j < k + n → r1 j = s1 j ∧ r2 j = s2 j ∧ r3 j = s3 j) → md_bl r1 r2 r3 t l n k x = md_bl s1 s2 s3 t l n k x
  | 0, _, _, _ => rfl
  | n + 1, k, x, h => by
    obtain ⟨e1, e2, e3⟩ := h k (Nat.le_refl _) (by omega)
    rw [md_bl_succ, md_bl_succ, e1, e2, e3]
    exact md_bl_congr n (k + 1) _ (fun j h1 h2 => h j (by omega) (by omega))
theorem md_bl_r (r1 r2 r3 : Nat → Int) (t l : Int) : ∀ (n k : Nat) (x : Int), 0 ≤ x → x ≤ 1 → 0 ≤ md_bl r1 r2 r3 t l n k x ∧ md_bl r1 r2 r3 t l n k x ≤ 1
  | 0, _, _, h0, h1 => ⟨h0, h1⟩
  | n + 1, k, x, h0, h1 => by
    rw [md_bl_succ]
    exact md_bl_r r1 r2 r3 t l n (k + 1) _ (by split <;> omega) (by split <;> omega)
theorem c_isDark (w : Nat) (t : Int) (L : Nat) (Z : Nat → Nat → Int) (W : Nat → Nat) (hw : pm_kd w = 6) (ht0 : 0 ≤ t) (ht : t < 2147483648) (h0 : 1 ≤ Z w 0) (h1 : Z w 0 ≤ 10000) (h2 : 1 ≤ Z w 1) (h3 : Z w 1 ≤ 10000) : pm_D (69, 0, [.ref w, .int (pm_J t)], [], pm_hp L Z W) = some (some (.int (pm_J (if Z w 1 ≤ t % Z w 0 then 1 else 0))), pm_hp L Z W) := by
  have hp : 0 < Z w 0 := by omega
  have m0 := Int.emod_nonneg t (show Z w 0 ≠ 0 by omega)
  have m1 := Int.emod_lt_of_pos t hp
  by_cases c : t % Z w 0 < Z w 1
  · have c' : ¬ Z w 1 ≤ t % Z w 0 := by omega
    simp (disch := first | assumption | decide +kernel | omega | (split <;> omega)) only [q_69_0, q_69_1, q_69_4, q_69_7, q_69_8, q_69_9, q_69_12, q_69_13, q_69_14, q_69_17, q_69_20, q_69_21, q_69_24, q_69_25, pm_some, Option.toList_some, Option.toList_none, List.cons_append, List.nil_append, pm_i0, pm_i1, Nat.reduceAdd, Nat.reduceMul, Int.toNat_natCast, Int.toNat_zero, hp, c, c', not_true_eq_false, not_false_eq_true, and_self, true_and, and_true, ↓reduceIte, Int.reduceEq, Int.reduceLT, Int.reduceLE, Int.reduceNeg, Bool.false_eq_true]
  · have c' : Z w 1 ≤ t % Z w 0 := by omega
    simp (disch := first | assumption | decide +kernel | omega | (split <;> omega)) only [q_69_0, q_69_1, q_69_4, q_69_7, q_69_8, q_69_9, q_69_12, q_69_13, q_69_14, q_69_17, q_69_20, q_69_21, q_69_24, q_69_25, pm_some, Option.toList_some, Option.toList_none, List.cons_append, List.nil_append, pm_i0, pm_i1, Nat.reduceAdd, Nat.reduceMul, Int.toNat_natCast, Int.toNat_zero, hp, c, c', not_true_eq_false, not_false_eq_true, and_self, true_and, and_true, ↓reduceIte, Int.reduceEq, Int.reduceLT, Int.reduceLE, Int.reduceNeg, Bool.false_eq_true]
theorem l_mark1 {o : Nat} (ho : pm_isL o) (t d : Int) (L : Nat) (W : Nat → Nat) (d0 : 0 ≤ d) (d1 : d ≤ 1) : ∀ (n k : Nat) (Z : Nat → Nat → Int), k + n = 7 → ∃ Z', pm_D (70, 9, [.ref (o + 1), .int (pm_J t), .ref (o + 12), .int (pm_J d), .int (pm_J (k : Int))], [], pm_hp L Z W) = pm_D (70, 27, [.ref (o + 1), .int (pm_J t), .ref (o + 12), .int (pm_J d), .int (pm_J 7)], [], pm_hp L Z' W) ∧ (∀ a, a ≠ o + 12 → Z' a = Z a) ∧ (∀ l, 7 ≤ l → Z' (o + 12) l = Z (o + 12) l) ∧ ∀ l : Nat, l < 7 → (Z' (o + 12) l = if k ≤ l then d else Z (o + 12) l) := by
  obtain ⟨k1, k2, k3, k4, k5, k6, k7, k8, k9, k10, k11, -⟩ := pm_kdL ho
  intro n
  induction n with
  | zero =>
    intro k Z hk
    obtain rfl : k = 7 := by omega
    refine ⟨Z, ?_, fun _ _ => rfl, fun _ _ => rfl, fun l hl => (if_neg (by omega)).symm⟩
    rw [q_70_9]
    simp (disch := first | assumption | decide +kernel | omega | (split <;> omega)) only [q_70_0, q_70_1, q_70_2, q_70_5, q_70_6, q_70_7, q_70_11, (q_70_12 (n := 7)), q_70_13, q_70_16, q_70_17, q_70_19, (q_70_20 (n := 7)), q_70_21, q_70_24, q_70_28, q_70_30, q_70_32, q_70_33, q_70_36, q_70_39, q_70_40, q_70_41, q_70_44, q_70_46, q_70_47, q_70_50, q_70_51, q_70_52, q_70_55, q_70_57, q_70_58, q_70_61, q_70_62, q_70_65, q_70_67, q_70_68, (q_70_69 (n := 7)), q_70_70, q_70_73, q_70_74, q_70_75, q_70_78, q_70_80, q_70_81, (q_70_82 (n := 7)), q_70_83, q_70_86, q_70_89, pm_some, Option.toList_some, Option.toList_none, List.cons_append, List.nil_append, pm_i0, pm_i1, Nat.reduceAdd, Nat.reduceMul, Int.toNat_natCast, Int.toNat_zero, not_true_eq_false, not_false_eq_true, and_self, true_and, and_true, ↓reduceIte, Int.reduceEq, Int.reduceLT, Int.reduceLE, Int.reduceNeg, Bool.false_eq_true, Int.lt_irrefl, Int.reduceLT, Int.cast_ofNat_Int]
  | succ n ih =>
    intro k Z hk
    have hlt : (k : Int) < 7 := by omega
    obtain ⟨Z', e, f, f', g⟩ := ih (k + 1) (pm_up Z (o + 12) k d) (by omega)
    rw [show (((k + 1 : Nat)) : Int) = (k : Int) + 1 by omega] at e
    refine ⟨Z', ?_, fun a ha => by rw [f a ha, pm_up_row ha], fun l hl => by rw [f' l hl, pm_up_ne (by omega)], fun l hl => ?_⟩
    · rw [q_70_9]
      simp (disch := first | assumption | decide +kernel | omega | (split <;> omega)) only [q_70_0, q_70_1, q_70_2, q_70_5, q_70_6, q_70_7, q_70_11, (q_70_12 (n := 7)), q_70_13, q_70_16, q_70_17, q_70_19, (q_70_20 (n := 7)), q_70_21, q_70_24, q_70_27, q_70_28, q_70_30, q_70_32, q_70_33, q_70_36, q_70_39, q_70_40, q_70_41, q_70_44, q_70_46, q_70_47, q_70_50, q_70_51, q_70_52, q_70_55, q_70_57, q_70_58, q_70_61, q_70_62, q_70_65, q_70_67, q_70_68, (q_70_69 (n := 7)), q_70_70, q_70_73, q_70_74, q_70_75, q_70_78, q_70_80, q_70_81, (q_70_82 (n := 7)), q_70_83, q_70_86, q_70_89, pm_some, Option.toList_some, Option.toList_none, List.cons_append, List.nil_append, pm_i0, pm_i1, Nat.reduceAdd, Nat.reduceMul, Int.toNat_natCast, Int.toNat_zero, not_true_eq_false, not_false_eq_true, and_self, true_and, and_true, ↓reduceIte, Int.reduceEq, Int.reduceLT, Int.reduceLE, Int.reduceNeg, Bool.false_eq_true, hlt, Int.cast_ofNat_Int, e]
    · rw [g l hl]
      by_cases hl' : l = k
      · subst hl'
        rw [if_neg (by omega), if_pos (Nat.le_refl _), pm_up_same]
      · rw [pm_up_ne (by omega)]
        by_cases h2 : k ≤ l
        · rw [if_pos (by omega), if_pos h2]
        · rw [if_neg (by omega), if_neg h2]
theorem l_mark2 {o : Nat} (ho : pm_isL o) (t d : Int) (L : Nat) (W : Nat → Nat) (t0 : 0 ≤ t) (t1 : t < 2147483648) : ∀ (n k : Nat) (Z : Nat → Nat → Int), Z (o + 1) 5 ≤ 12 → (∀ i : Nat, (i : Int) < Z (o + 1) 5 → 0 ≤ Z (o + 1 + 1) i ∧ Z (o + 1 + 1) i < 7 ∧ pm_r (Z (o + 1 + 2) i) ∧ pm_r (Z (o + 1 + 3) i)) → (k : Int) + n = Z (o + 1) 5 → ∃ Z', pm_D (70, 30, [.ref (o + 1), .int (pm_J t), .ref (o + 12), .int (pm_J d), .int (pm_J (k : Int))], [], pm_hp L Z W) = some (none, pm_hp L Z' W) ∧ (∀ a, a ≠ o + 12 → Z' a = Z a) ∧ (∀ l, 7 ≤ l → Z' (o + 12) l = Z (o + 12) l) ∧ ∀ l : Nat, l < 7 → Z' (o + 12) l = md_bl (Z (o + 1 + 1)) (Z (o + 1 + 2)) (Z (o + 1 + 3)) t l n k (Z (o + 12) l) := by
  obtain ⟨k1, k2, k3, k4, k5, k6, k7, k8, k9, k10, k11, -⟩ := pm_kdL ho
  obtain ⟨y1, y2, y3, y4, y5, y6, -⟩ := pm_kdW ho
  intro n
  induction n with
  | zero =>
    intro k Z h12 hv hk
    have hlt : ¬ (k : Int) < Z (o + 1) 5 := by omega
    refine ⟨Z, ?_, fun _ _ => rfl, fun _ _ => rfl, fun l hl => rfl⟩
    rw [q_70_30]
    simp (disch := first | assumption | decide +kernel | omega | (split <;> omega)) only [q_70_0, q_70_1, q_70_2, q_70_5, q_70_6, q_70_7, q_70_9, q_70_11, (q_70_12 (n := 7)), q_70_13, q_70_16, q_70_17, q_70_19, (q_70_20 (n := 7)), q_70_21, q_70_24, q_70_27, q_70_28, q_70_32, q_70_33, q_70_36, q_70_39, q_70_40, q_70_41, q_70_44, q_70_46, q_70_47, q_70_50, q_70_51, q_70_52, q_70_55, q_70_57, q_70_58, q_70_61, q_70_62, q_70_65, q_70_67, q_70_68, (q_70_69 (n := 7)), q_70_70, q_70_73, q_70_74, q_70_75, q_70_78, q_70_80, q_70_81, (q_70_82 (n := 7)), q_70_83, q_70_86, q_70_89, pm_some, Option.toList_some, Option.toList_none, List.cons_append, List.nil_append, pm_i0, pm_i1, Nat.reduceAdd, Nat.reduceMul, Int.toNat_natCast, Int.toNat_zero, not_true_eq_false, not_false_eq_true, and_self, true_and, and_true, ↓reduceIte, Int.reduceEq, Int.reduceLT, Int.reduceLE, Int.reduceNeg, Bool.false_eq_true, hlt]
  | succ n ih =>
    intro k Z h12 hv hk
    have hlt : (k : Int) < Z (o + 1) 5 := by omega
    obtain ⟨v1, v2, v3, v4⟩ := hv k hlt
    have skip : ¬ (Z (o + 1 + 2) k ≤ t ∧ t ≤ Z (o + 1 + 3) k) → ∃ Z', pm_D (70, 30, [.ref (o + 1), .int (pm_J t), .ref (o + 12), .int (pm_J d), .int (pm_J (k : Int))], [], pm_hp L Z W) = some (none, pm_hp L Z' W) ∧ (∀ a, a ≠ o + 12 → Z' a = Z a) ∧ (∀ l, 7 ≤ l → Z' (o + 12) l = Z (o + 12) l) ∧ ∀ l : Nat, l < 7 → Z' (o + 12) l = md_bl (Z (o + 1 + 1)) (Z (o + 1 + 2)) (Z (o + 1 + 3)) t l (n + 1) k (Z (o + 12) l) := by
      intro hno
      obtain ⟨Z', e, f, f', g⟩ := ih (k + 1) Z h12 hv (by omega)
      rw [show (((k + 1 : Nat)) : Int) = (k : Int) + 1 by omega] at e
      refine ⟨Z', ?_, f, f', fun l hl => ?_⟩
      · rw [q_70_30]
        by_cases c1 : t < Z (o + 1 + 2) k
        · simp (disch := first | assumption | decide +kernel | omega | (split <;> omega)) only [q_70_0, q_70_1, q_70_2, q_70_5, q_70_6, q_70_7, q_70_9, q_70_11, (q_70_12 (n := 7)), q_70_13, q_70_16, q_70_17, q_70_19, (q_70_20 (n := 7)), q_70_21, q_70_24, q_70_27, q_70_28, q_70_32, q_70_33, q_70_36, q_70_39, q_70_40, q_70_41, q_70_44, q_70_46, q_70_47, q_70_50, q_70_51, q_70_52, q_70_55, q_70_57, q_70_58, q_70_61, q_70_62, q_70_65, q_70_67, q_70_68, (q_70_69 (n := 7)), q_70_70, q_70_73, q_70_74, q_70_75, q_70_78, q_70_80, q_70_81, (q_70_82 (n := 7)), q_70_83, q_70_86, q_70_89, pm_some, Option.toList_some, Option.toList_none, List.cons_append, List.nil_append, pm_i0, pm_i1, Nat.reduceAdd, Nat.reduceMul, Int.toNat_natCast, Int.toNat_zero, not_true_eq_false, not_false_eq_true, and_self, true_and, and_true, ↓reduceIte, Int.reduceEq, Int.reduceLT, Int.reduceLE, Int.reduceNeg, Bool.false_eq_true, hlt, c1, e]
        · have c2 : Z (o + 1 + 3) k < t := by omega
          simp (disch := first | assumption | decide +kernel | omega | (split <;> omega)) only [q_70_0, q_70_1, q_70_2, q_70_5, q_70_6, q_70_7, q_70_9, q_70_11, (q_70_12 (n := 7)), q_70_13, q_70_16, q_70_17, q_70_19, (q_70_20 (n := 7)), q_70_21, q_70_24, q_70_27, q_70_28, q_70_32, q_70_33, q_70_36, q_70_39, q_70_40, q_70_41, q_70_44, q_70_46, q_70_47, q_70_50, q_70_51, q_70_52, q_70_55, q_70_57, q_70_58, q_70_61, q_70_62, q_70_65, q_70_67, q_70_68, (q_70_69 (n := 7)), q_70_70, q_70_73, q_70_74, q_70_75, q_70_78, q_70_80, q_70_81, (q_70_82 (n := 7)), q_70_83, q_70_86, q_70_89, pm_some, Option.toList_some, Option.toList_none, List.cons_append, List.nil_append, pm_i0, pm_i1, Nat.reduceAdd, Nat.reduceMul, Int.toNat_natCast, Int.toNat_zero, not_true_eq_false, not_false_eq_true, and_self, true_and, and_true, ↓reduceIte, Int.reduceEq, Int.reduceLT, Int.reduceLE, Int.reduceNeg, Bool.false_eq_true, hlt, c1, c2, e]
      · rw [g l hl, md_bl_succ, if_neg (fun q => hno q.2)]
    by_cases c : Z (o + 1 + 2) k ≤ t ∧ t ≤ Z (o + 1 + 3) k
    · have c1 : ¬ t < Z (o + 1 + 2) k := by omega
      have c2 : ¬ Z (o + 1 + 3) k < t := by omega
      have r0 : pm_up Z (o + 12) (Z (o + 1 + 1) k).toNat 1 (o + 1) = Z (o + 1) := pm_up_row (by omega)
      have r1 : pm_up Z (o + 12) (Z (o + 1 + 1) k).toNat 1 (o + 1 + 1) = Z (o + 1 + 1) := pm_up_row (by omega)
      have r2 : pm_up Z (o + 12) (Z (o + 1 + 1) k).toNat 1 (o + 1 + 2) = Z (o + 1 + 2) := pm_up_row (by omega)
      have r3 : pm_up Z (o + 12) (Z (o + 1 + 1) k).toNat 1 (o + 1 + 3) = Z (o + 1 + 3) := pm_up_row (by omega)
      obtain ⟨Z', e, f, f', g⟩ := ih (k + 1) (pm_up Z (o + 12) (Z (o + 1 + 1) k).toNat 1) (by rw [r0]; exact h12) (by rw [r0, r1, r2, r3]; exact hv) (by rw [r0]; omega)
      rw [show (((k + 1 : Nat)) : Int) = (k : Int) + 1 by omega] at e
      refine ⟨Z', ?_, fun a ha => by rw [f a ha, pm_up_row ha], fun l hl => by rw [f' l hl, pm_up_ne (by omega)], fun l hl => ?_⟩
      · rw [q_70_30]
        simp (disch := first | assumption | decide +kernel | omega | (split <;> omega)) only [q_70_0, q_70_1, q_70_2, q_70_5, q_70_6, q_70_7, q_70_9, q_70_11, (q_70_12 (n := 7)), q_70_13, q_70_16, q_70_17, q_70_19, (q_70_20 (n := 7)), q_70_21, q_70_24, q_70_27, q_70_28, q_70_32, q_70_33, q_70_36, q_70_39, q_70_40, q_70_41, q_70_44, q_70_46, q_70_47, q_70_50, q_70_51, q_70_52, q_70_55, q_70_57, q_70_58, q_70_61, q_70_62, q_70_65, q_70_67, q_70_68, (q_70_69 (n := 7)), q_70_70, q_70_73, q_70_74, q_70_75, q_70_78, q_70_80, q_70_81, (q_70_82 (n := 7)), q_70_83, q_70_86, q_70_89, pm_some, Option.toList_some, Option.toList_none, List.cons_append, List.nil_append, pm_i0, pm_i1, Nat.reduceAdd, Nat.reduceMul, Int.toNat_natCast, Int.toNat_zero, not_true_eq_false, not_false_eq_true, and_self, true_and, and_true, ↓reduceIte, Int.reduceEq, Int.reduceLT, Int.reduceLE, Int.reduceNeg, Bool.false_eq_true, hlt, c1, c2, Int.cast_ofNat_Int, v2, e]
      · rw [g l hl, r1, r2, r3, md_bl_succ]
        by_cases hl' : Z (o + 1 + 1) k = l
        · rw [if_pos ⟨hl', c⟩, hl', Int.toNat_natCast, pm_up_same]
        · rw [if_neg (fun q => hl' q.1), pm_up_ne (by omega)]
    · exact skip c
theorem c_markBlind {o : Nat} (ho : pm_isL o) (t : Int) (L : Nat) (Z : Nat → Nat → Int) (W : Nat → Nat) (t0 : 0 ≤ t) (t1 : t < 2147483648) (h0 : 1 ≤ Z (o + 1) 0) (h1 : Z (o + 1) 0 ≤ 10000) (h2 : 1 ≤ Z (o + 1) 1) (h3 : Z (o + 1) 1 ≤ 10000) (h4 : 0 ≤ Z (o + 1) 5) (h5 : Z (o + 1) 5 ≤ 12) (hv : ∀ i : Nat, (i : Int) < Z (o + 1) 5 → 0 ≤ Z (o + 1 + 1) i ∧ Z (o + 1 + 1) i < 7 ∧ pm_r (Z (o + 1 + 2) i) ∧ pm_r (Z (o + 1 + 3) i)) : ∃ Z', pm_D (70, 0, [.ref (o + 1), .int (pm_J t), .ref (o + 12), .null, .null], [], pm_hp L Z W) = some (none, pm_hp L Z' W) ∧ (∀ a, a ≠ o + 12 → Z' a = Z a) ∧ (∀ l, 7 ≤ l → Z' (o + 12) l = Z (o + 12) l) ∧ ∀ l : Nat, l < 7 → Z' (o + 12) l = md_bl (Z (o + 1 + 1)) (Z (o + 1 + 2)) (Z (o + 1 + 3)) t l (Z (o + 1) 5).toNat 0 (if Z (o + 1) 1 ≤ t % Z (o + 1) 0 then 1 else 0) := by
  obtain ⟨k1, k2, k3, k4, k5, k6, k7, k8, k9, k10, k11, -⟩ := pm_kdL ho
  have d0 : 0 ≤ (if Z (o + 1) 1 ≤ t % Z (o + 1) 0 then (1 : Int) else 0) := by split <;> omega
  have d1 : (if Z (o + 1) 1 ≤ t % Z (o + 1) 0 then (1 : Int) else 0) ≤ 1 := by split <;> omega
  have hD := c_isDark (o + 1) t L Z W k2 t0 t1 h0 h1 h2 h3
  generalize (if Z (o + 1) 1 ≤ t % Z (o + 1) 0 then (1 : Int) else 0) = d at d0 d1 hD ⊢
  obtain ⟨Z1, e1, f1, f1', g1⟩ := l_mark1 ho t d L W d0 d1 7 0 Z rfl
  have r0 : Z1 (o + 1) = Z (o + 1) := f1 _ (by omega)
  have r1 : Z1 (o + 1 + 1) = Z (o + 1 + 1) := f1 _ (by omega)
  have r2 : Z1 (o + 1 + 2) = Z (o + 1 + 2) := f1 _ (by omega)
  have r3 : Z1 (o + 1 + 3) = Z (o + 1 + 3) := f1 _ (by omega)
  obtain ⟨Z2, e2, f2, f2', g2⟩ := l_mark2 ho t d L W t0 t1 (Z (o + 1) 5).toNat 0 Z1 (by rw [r0]; exact h5) (by rw [r0, r1, r2, r3]; exact hv) (by rw [r0]; omega)
  rw [show (((0 : Nat)) : Int) = 0 from rfl] at e1 e2
  refine ⟨Z2, ?_, fun a ha => by rw [f2 a ha, f1 a ha], fun l hl => by rw [f2' l hl, f1' l hl], fun l hl => ?_⟩
  · rw [q_70_0, q_70_1, q_70_2 _ _ _ _ _ _ _ _ _ _ k2, hD]
    simp only [pm_some, Option.toList_some, Option.toList_none, List.cons_append, List.nil_append, pm_i0, pm_i1, Nat.reduceAdd, Nat.reduceMul, Int.toNat_natCast, Int.toNat_zero]
    rw [q_70_5, q_70_6, q_70_7, e1, q_70_27, q_70_28, e2]
  · rw [g2 l hl, r1, r2, r3, g1 l hl, if_pos (Nat.zero_le _)]
theorem l_R_blind (l : Int) (L : Nat) (Z : Nat → Nat → Int) (W : Nat → Nat) (hl : pm_r l) (h12 : Z 190 5 ≤ 12) (ht : pm_r (Z 191 0)) (hv : ∀ i : Nat, (i : Int) < Z 190 5 → pm_r (Z 193 i) ∧ pm_r (Z 194 i) ∧ pm_r (Z 195 i)) : ∀ (n k : Nat) (x : Int), 0 ≤ x → x ≤ 1 → (k : Int) + n = Z 190 5 → pm_D (114, 26, [.ref 190, .int (pm_J l), .int (pm_J x), .int (pm_J (k : Int))], [], pm_hp L Z W) = some (some (.int (pm_J (md_bl (Z 193) (Z 194) (Z 195) (Z 191 0) l n k x))), pm_hp L Z W) := by
  intro n
  induction n with
  | zero =>
    intro k x x0 x1 hk
    have hlt : ¬ (k : Int) < Z 190 5 := by omega
    rw [q_114_26]
    simp (disch := first | assumption | decide +kernel | omega | (split <;> omega)) only [q_114_0, q_114_1, q_114_4, q_114_5, q_114_6, q_114_7, q_114_10, q_114_11, q_114_12, q_114_15, q_114_18, q_114_19, q_114_22, q_114_23, q_114_24, q_114_25, q_114_27, q_114_28, q_114_31, q_114_34, q_114_35, q_114_38, q_114_39, q_114_42, q_114_43, q_114_44, q_114_45, q_114_48, q_114_49, q_114_52, q_114_53, q_114_54, q_114_55, q_114_58, q_114_59, q_114_60, q_114_61, q_114_64, q_114_65, q_114_66, q_114_69, q_114_72, q_114_73, q_114_76, q_114_77, q_114_78, q_114_81, q_114_84, q_114_85, pm_some, Option.toList_some, Option.toList_none, List.cons_append, List.nil_append, pm_i0, pm_i1, Nat.reduceAdd, Nat.reduceMul, Int.toNat_natCast, Int.toNat_zero, hlt, not_true_eq_false, not_false_eq_true, and_self, true_and, and_true, ↓reduceIte, Int.reduceEq, Int.reduceLT, Int.reduceLE, Int.reduceNeg, Bool.false_eq_true]
    rfl
  | succ n ih =>
    intro k x x0 x1 hk
    have hlt : (k : Int) < Z 190 5 := by omega
    obtain ⟨v1, v2, v3⟩ := hv k hlt
    have ih1 := ih (k + 1) 1 (by omega) (by omega) (by omega)
    have ih0 := ih (k + 1) 0 (by omega) (by omega) (by omega)
    rw [show (((k + 1 : Nat)) : Int) = (k : Int) + 1 by omega] at ih1 ih0
    rw [q_114_26, md_bl_succ]
    rcases (show x = 0 ∨ x = 1 by omega) with rfl | rfl
    · by_cases c1 : Z 193 k = l
      · by_cases c2 : Z 194 k ≤ Z 191 0 ∧ Z 191 0 ≤ Z 195 k
        · simp (disch := first | assumption | decide +kernel | omega | (split <;> omega)) only [q_114_0, q_114_1, q_114_4, q_114_5, q_114_6, q_114_7, q_114_10, q_114_11, q_114_12, q_114_15, q_114_18, q_114_19, q_114_22, q_114_23, q_114_24, q_114_25, q_114_27, q_114_28, q_114_31, q_114_34, q_114_35, q_114_38, q_114_39, q_114_42, q_114_43, q_114_44, q_114_45, q_114_48, q_114_49, q_114_52, q_114_53, q_114_54, q_114_55, q_114_58, q_114_59, q_114_60, q_114_61, q_114_64, q_114_65, q_114_66, q_114_69, q_114_72, q_114_73, q_114_76, q_114_77, q_114_78, q_114_81, q_114_84, q_114_85, c_in, pm_some, Option.toList_some, Option.toList_none, List.cons_append, List.nil_append, pm_i0, pm_i1, Nat.reduceAdd, Nat.reduceMul, Int.toNat_natCast, Int.toNat_zero, hlt, c1, c2, not_true_eq_false, not_false_eq_true, and_self, true_and, and_true, ↓reduceIte, Int.reduceEq, Int.reduceLT, Int.reduceLE, Int.reduceNeg, Bool.false_eq_true, ih1]
        · simp (disch := first | assumption | decide +kernel | omega | (split <;> omega)) only [q_114_0, q_114_1, q_114_4, q_114_5, q_114_6, q_114_7, q_114_10, q_114_11, q_114_12, q_114_15, q_114_18, q_114_19, q_114_22, q_114_23, q_114_24, q_114_25, q_114_27, q_114_28, q_114_31, q_114_34, q_114_35, q_114_38, q_114_39, q_114_42, q_114_43, q_114_44, q_114_45, q_114_48, q_114_49, q_114_52, q_114_53, q_114_54, q_114_55, q_114_58, q_114_59, q_114_60, q_114_61, q_114_64, q_114_65, q_114_66, q_114_69, q_114_72, q_114_73, q_114_76, q_114_77, q_114_78, q_114_81, q_114_84, q_114_85, c_in, pm_some, Option.toList_some, Option.toList_none, List.cons_append, List.nil_append, pm_i0, pm_i1, Nat.reduceAdd, Nat.reduceMul, Int.toNat_natCast, Int.toNat_zero, hlt, c1, c2, not_true_eq_false, not_false_eq_true, and_self, true_and, and_true, ↓reduceIte, Int.reduceEq, Int.reduceLT, Int.reduceLE, Int.reduceNeg, Bool.false_eq_true, ih0]
      · simp (disch := first | assumption | decide +kernel | omega | (split <;> omega)) only [q_114_0, q_114_1, q_114_4, q_114_5, q_114_6, q_114_7, q_114_10, q_114_11, q_114_12, q_114_15, q_114_18, q_114_19, q_114_22, q_114_23, q_114_24, q_114_25, q_114_27, q_114_28, q_114_31, q_114_34, q_114_35, q_114_38, q_114_39, q_114_42, q_114_43, q_114_44, q_114_45, q_114_48, q_114_49, q_114_52, q_114_53, q_114_54, q_114_55, q_114_58, q_114_59, q_114_60, q_114_61, q_114_64, q_114_65, q_114_66, q_114_69, q_114_72, q_114_73, q_114_76, q_114_77, q_114_78, q_114_81, q_114_84, q_114_85, c_in, pm_some, Option.toList_some, Option.toList_none, List.cons_append, List.nil_append, pm_i0, pm_i1, Nat.reduceAdd, Nat.reduceMul, Int.toNat_natCast, Int.toNat_zero, hlt, c1, not_true_eq_false, not_false_eq_true, and_self, true_and, and_true, ↓reduceIte, Int.reduceEq, Int.reduceLT, Int.reduceLE, Int.reduceNeg, Bool.false_eq_true, false_and, ih0]
    · simp (disch := first | assumption | decide +kernel | omega | (split <;> omega)) only [q_114_0, q_114_1, q_114_4, q_114_5, q_114_6, q_114_7, q_114_10, q_114_11, q_114_12, q_114_15, q_114_18, q_114_19, q_114_22, q_114_23, q_114_24, q_114_25, q_114_27, q_114_28, q_114_31, q_114_34, q_114_35, q_114_38, q_114_39, q_114_42, q_114_43, q_114_44, q_114_45, q_114_48, q_114_49, q_114_52, q_114_53, q_114_54, q_114_55, q_114_58, q_114_59, q_114_60, q_114_61, q_114_64, q_114_65, q_114_66, q_114_69, q_114_72, q_114_73, q_114_76, q_114_77, q_114_78, q_114_81, q_114_84, q_114_85, c_in, pm_some, Option.toList_some, Option.toList_none, List.cons_append, List.nil_append, pm_i0, pm_i1, Nat.reduceAdd, Nat.reduceMul, Int.toNat_natCast, Int.toNat_zero, hlt, not_true_eq_false, not_false_eq_true, and_self, true_and, and_true, ↓reduceIte, Int.reduceEq, Int.reduceLT, Int.reduceLE, Int.reduceNeg, Bool.false_eq_true, ih1, ite_self]
theorem c_R_blind (l : Int) (L : Nat) (Z : Nat → Nat → Int) (W : Nat → Nat) (hl : pm_r l) (t0 : 0 ≤ Z 191 0) (t1 : Z 191 0 < 2147483648) (h0 : 1 ≤ Z 190 1) (h1 : Z 190 1 ≤ 10000) (h2 : 1 ≤ Z 190 2) (h3 : Z 190 2 ≤ 10000) (h4 : 0 ≤ Z 190 5) (h5 : Z 190 5 ≤ 12) (hv : ∀ i : Nat, (i : Int) < Z 190 5 → pm_r (Z 193 i) ∧ pm_r (Z 194 i) ∧ pm_r (Z 195 i)) : pm_D (114, 0, [.ref 190, .int (pm_J l), .null, .null], [], pm_hp L Z W) = some (some (.int (pm_J (md_bl (Z 193) (Z 194) (Z 195) (Z 191 0) l (Z 190 5).toNat 0 (if Z 190 2 ≤ Z 191 0 % Z 190 1 then 1 else 0)))), pm_hp L Z W) := by
  have m0 := Int.emod_nonneg (Z 191 0) (show Z 190 1 ≠ 0 by omega)
  have m1 := Int.emod_lt_of_pos (Z 191 0) (show 0 < Z 190 1 by omega)
  have hr : pm_r (Z 191 0) := ⟨by omega, t1⟩
  have h := l_R_blind l L Z W hl h5 hr hv (Z 190 5).toNat 0
  by_cases c : Z 191 0 % Z 190 1 < Z 190 2
  · have c' : ¬ Z 190 2 ≤ Z 191 0 % Z 190 1 := by omega
    have h' := h 0 (by omega) (by omega) (by omega)
    rw [show (((0 : Nat)) : Int) = 0 from rfl] at h'
    simp (disch := first | assumption | decide +kernel | omega | (split <;> omega)) only [q_114_0, q_114_1, q_114_4, q_114_5, q_114_6, q_114_7, q_114_10, q_114_11, q_114_12, q_114_15, q_114_18, q_114_19, q_114_22, q_114_23, q_114_24, q_114_25, q_114_27, q_114_28, q_114_31, q_114_34, q_114_35, q_114_38, q_114_39, q_114_42, q_114_43, q_114_44, q_114_45, q_114_48, q_114_49, q_114_52, q_114_53, q_114_54, q_114_55, q_114_58, q_114_59, q_114_60, q_114_61, q_114_64, q_114_65, q_114_66, q_114_69, q_114_72, q_114_73, q_114_76, q_114_77, q_114_78, q_114_81, q_114_84, q_114_85, pm_some, Option.toList_some, Option.toList_none, List.cons_append, List.nil_append, pm_i0, pm_i1, Nat.reduceAdd, Nat.reduceMul, Int.toNat_natCast, Int.toNat_zero, c, c', not_true_eq_false, not_false_eq_true, and_self, true_and, and_true, ↓reduceIte, Int.reduceEq, Int.reduceLT, Int.reduceLE, Int.reduceNeg, Bool.false_eq_true, h']
  · have c' : Z 190 2 ≤ Z 191 0 % Z 190 1 := by omega
    have h' := h 1 (by omega) (by omega) (by omega)
    rw [show (((0 : Nat)) : Int) = 0 from rfl] at h'
    simp (disch := first | assumption | decide +kernel | omega | (split <;> omega)) only [q_114_0, q_114_1, q_114_4, q_114_5, q_114_6, q_114_7, q_114_10, q_114_11, q_114_12, q_114_15, q_114_18, q_114_19, q_114_22, q_114_23, q_114_24, q_114_25, q_114_27, q_114_28, q_114_31, q_114_34, q_114_35, q_114_38, q_114_39, q_114_42, q_114_43, q_114_44, q_114_45, q_114_48, q_114_49, q_114_52, q_114_53, q_114_54, q_114_55, q_114_58, q_114_59, q_114_60, q_114_61, q_114_64, q_114_65, q_114_66, q_114_69, q_114_72, q_114_73, q_114_76, q_114_77, q_114_78, q_114_81, q_114_84, q_114_85, pm_some, Option.toList_some, Option.toList_none, List.cons_append, List.nil_append, pm_i0, pm_i1, Nat.reduceAdd, Nat.reduceMul, Int.toNat_natCast, Int.toNat_zero, c, c', not_true_eq_false, not_false_eq_true, and_self, true_and, and_true, ↓reduceIte, Int.reduceEq, Int.reduceLT, Int.reduceLE, Int.reduceNeg, Bool.false_eq_true, h']
/-- the line's row of blind links may be anything -/
theorem lr_blind {o : Nat} {T : Int} {Z Z' : Nat → Nat → Int} (ho : pm_isL o) (h : lr o T Z) (f : ∀ a, a ≠ o + 12 → Z' a = Z a) : lr o T Z' := by
  have hx : o = 46 ∨ o = 118 := ho
  obtain ⟨ha, hw, hf, hm, hu, hc, hs, ht⟩ := h
  have z0 := f o (by omega)
  have z190 := f 190 (by omega)
  refine ⟨lr_a_congr ha (by rw [z0]) (by rw [z0]) (by rw [z0]) (by rw [z0]) (by rw [z190]) (by rw [z190]) (by rw [f 191 (by omega)]), lr_w_congr hw (f _ (by omega)) (f _ (by omega)) (f _ (by omega)) (f _ (by omega)) (by rw [z190]) (by rw [z190]) (by rw [z190]) (f _ (by omega)) (f _ (by omega)) (f _ (by omega)), lr_f_congr hf (f _ (by omega)) (f _ (by omega)) (f _ (by omega)) (f _ (by omega)) (by rw [z190]) (f _ (by omega)) (f _ (by omega)) (f _ (by omega)), ?_, lr_u_congr hu (by rw [z190]) (f _ (by omega)), lr_c_congr hc (fun l hl => f _ (by omega)) (fun q _ _ => by rw [f 191 (by omega)]), lr_s_congr hs (f _ (by omega)) (by rw [z190]) (fun q _ _ => by rw [f 191 (by omega)]), lr_t_congr ht (by rw [z0]) (f _ (by omega)) (f _ (by omega)) (by rw [z190]) (by rw [z190]) (f _ (by omega)) (f _ (by omega)) (f _ (by omega)) (f _ (by omega))⟩
  intro i hi
  rw [z190] at hi
  obtain ⟨a1, a2, a3, a4, a5, a6, a7, a8, a9, a10⟩ := ha
  exact lm_congr (hm i hi) (f _ (by omega)) (f _ (by omega)) (f _ (by omega)) (f _ (by omega)) (f _ (by omega)) (by rw [z190]) a3 (by rw [f 205 (by omega)]) (by rw [f 206 (by omega)]) (by rw [f 207 (by omega)]) (by rw [f 208 (by omega)]) (fun q _ => by rw [f 191 (by omega)])
theorem op_isBlind : Op_isBlind := by
  intro T L Z W hI hT0 hT a ha
  obtain ⟨⟨⟨a1, a2, a3, a4, a5, a6, a7, a8, a9, a10, a11⟩, ⟨⟨w1, w2, w3, w4, w5, w6⟩, ⟨w7, w8, w9⟩, w10⟩, ⟨⟨f1, f2, f3⟩, f4⟩, hms, hun, hco, hsh, htk⟩, htx, hbk, hon⟩ := id hI
  have a8' : 0 ≤ Z 46 4 := by omega
  have a9' : Z 46 4 ≤ 10 := by omega
  have a2' : 0 ≤ Z 46 2 := by omega
  have a3' : Z 46 2 ≤ 8 := by omega
  have a2'' : 0 ≤ Z 190 0 := by omega
  by_cases hm : 0 ≤ a ∧ a < Z 190 0 - 1
  · have w7' : Z 47 5 = Z 190 5 := w7
    have a4' : Z 46 3 = Z 191 0 := a4
    have w1' : Z 47 0 = Z 190 1 := w1
    have w2' : Z 47 1 = Z 190 2 := w2
    have w10' : ∀ i : Nat, (i : Int) < Z 190 5 → Z 48 i = Z 193 i ∧ Z 49 i = Z 194 i ∧ Z 50 i = Z 195 i ∧ 0 ≤ Z 193 i ∧ Z 193 i < 7 ∧ 0 ≤ Z 194 i ∧ Z 194 i ≤ 100000 ∧ 0 ≤ Z 195 i ∧ Z 195 i ≤ 100000 := w10
    obtain ⟨Z1, e, f, -, g⟩ := c_markBlind (o := 46) (Or.inl rfl) (Z 46 3) L Z W (by omega) (by omega) (by omega) (by omega) (by omega) (by omega) (by omega) (by omega) (fun i hi => by
      have := w10' i (by omega)
      have q1 : Z (46 + 1 + 1) i = Z 48 i := rfl
      have q2 : Z (46 + 1 + 2) i = Z 49 i := rfl
      have q3 : Z (46 + 1 + 3) i = Z 50 i := rfl
      omega)
    have hg := g a.toNat (by omega)
    rw [show ((a.toNat : Nat) : Int) = a by omega, show Z (46 + 1) 5 = Z 190 5 from w7, show Z (46 + 1) 0 = Z 190 1 from w1, show Z (46 + 1) 1 = Z 190 2 from w2, a4', md_bl_congr (s1 := Z 193) (s2 := Z 194) (s3 := Z 195) _ _ _ (fun j h1 h2 => by
      have := w10' j (by omega)
      exact ⟨this.1, this.2.1, this.2.2.1⟩)] at hg
    have hb := md_bl_r (Z 193) (Z 194) (Z 195) (Z 191 0) a (Z 190 5).toNat 0 (if Z 190 2 ≤ Z 191 0 % Z 190 1 then 1 else 0) (by split <;> omega) (by split <;> omega)
    have hR := c_R_blind a L Z1 W ha (by rw [f 191 (by omega)]; omega) (by rw [f 191 (by omega)]; omega) (by rw [f 190 (by omega)]; omega) (by rw [f 190 (by omega)]; omega) (by rw [f 190 (by omega)]; omega) (by rw [f 190 (by omega)]; omega) (by rw [f 190 (by omega)]; omega) (by rw [f 190 (by omega)]; omega) (fun i hi => by
      rw [f 190 (by omega)] at hi
      rw [f 193 (by omega), f 194 (by omega), f 195 (by omega)]
      have := w10' i hi
      omega)
    rw [f 190 (by omega), f 191 (by omega), f 193 (by omega), f 194 (by omega), f 195 (by omega)] at hR
    generalize md_bl (Z 193) (Z 194) (Z 195) (Z 191 0) a (Z 190 5).toNat 0 (if Z 190 2 ≤ Z 191 0 % Z 190 1 then 1 else 0) = y at hg hb hR
    have e' : pm_D (70, 0, [.ref 47, .int (pm_J (Z 191 0)), .ref 58, .null, .null], [], pm_hp L Z W) = some (none, pm_hp L Z1 W) := by rw [← a4']; exact e
    have hg' : Z1 58 a.toNat = y := hg
    refine ⟨y, Z1, W, Z1, W, by omega, ?_, ?_, Inv.up ⟨lr_blind (o := 46) (Or.inl rfl) hI.1 f, tx_congr htx (by rw [f 1 (by omega)]) (f _ (by omega)) (by rw [f 190 (by omega)]) (f _ (by omega)), bk_congr hbk (by rw [f 3 (by omega)]) (fun b _ _ => f _ (by omega)) (by rw [f 190 (by omega)]) (f _ (by omega)) (f _ (by omega)) (f _ (by omega)) (f _ (by omega)), by rw [f 190 (by omega)]; exact hon⟩, f _ (by omega), f _ (by omega)⟩
    · have hy : pm_r y := by omega
      rcases (show y = 0 ∨ y = 1 by omega) with rfl | rfl
      · simp (disch := first | assumption | decide +kernel | omega | (split <;> omega)) only [q_79_0, q_79_1, q_79_4, q_79_5, q_79_8, q_79_11, q_79_12, q_79_13, q_79_14, q_79_17, q_79_18, q_79_21, q_79_24, q_79_25, q_79_28, q_79_29, q_25_0, q_25_1, q_25_4, q_25_5, q_25_8, q_25_9, q_25_12, q_25_15, q_25_16, q_25_19, q_25_20, q_25_21, c_hasLink, pm_some, Option.toList_some, Option.toList_none, List.cons_append, List.nil_append, pm_i0, pm_i1, Nat.reduceAdd, Nat.reduceMul, Int.toNat_natCast, Int.toNat_zero, a1, a4', e', hg', hm, not_true_eq_false, not_false_eq_true, and_self, true_and, and_true, ↓reduceIte, Int.reduceEq, Int.reduceLT, Int.reduceLE, Int.reduceNeg, Bool.false_eq_true]
      · simp (disch := first | assumption | decide +kernel | omega | (split <;> omega)) only [q_79_0, q_79_1, q_79_4, q_79_5, q_79_8, q_79_11, q_79_12, q_79_13, q_79_14, q_79_17, q_79_18, q_79_21, q_79_24, q_79_25, q_79_28, q_79_29, q_25_0, q_25_1, q_25_4, q_25_5, q_25_8, q_25_9, q_25_12, q_25_15, q_25_16, q_25_19, q_25_20, q_25_21, c_hasLink, pm_some, Option.toList_some, Option.toList_none, List.cons_append, List.nil_append, pm_i0, pm_i1, Nat.reduceAdd, Nat.reduceMul, Int.toNat_natCast, Int.toNat_zero, a1, a4', e', hg', hm, not_true_eq_false, not_false_eq_true, and_self, true_and, and_true, ↓reduceIte, Int.reduceEq, Int.reduceLT, Int.reduceLE, Int.reduceNeg, Bool.false_eq_true]
    · have g0 : 0 ≤ Z1 190 0 := by rw [f 190 (by omega)]; omega
      have g1 : Z1 190 0 ≤ 8 := by rw [f 190 (by omega)]; omega
      have z0 : Z1 190 0 = Z 190 0 := by rw [f 190 (by omega)]
      rcases (show y = 0 ∨ y = 1 by omega) with rfl | rfl
      · simp (disch := first | assumption | decide +kernel | omega | (split <;> omega)) only [q_115_0, q_115_1, q_115_2, q_115_5, q_115_8, q_115_9, q_115_12, q_115_13, q_115_14, q_115_17, q_115_20, q_115_21, q_115_24, q_115_25, c_noLink, hR, pm_some, Option.toList_some, Option.toList_none, List.cons_append, List.nil_append, pm_i0, pm_i1, Nat.reduceAdd, Nat.reduceMul, Int.toNat_natCast, Int.toNat_zero, z0, hm, not_true_eq_false, not_false_eq_true, and_self, true_and, and_true, ↓reduceIte, Int.reduceEq, Int.reduceLT, Int.reduceLE, Int.reduceNeg, Bool.false_eq_true]
      · simp (disch := first | assumption | decide +kernel | omega | (split <;> omega)) only [q_115_0, q_115_1, q_115_2, q_115_5, q_115_8, q_115_9, q_115_12, q_115_13, q_115_14, q_115_17, q_115_20, q_115_21, q_115_24, q_115_25, c_noLink, hR, pm_some, Option.toList_some, Option.toList_none, List.cons_append, List.nil_append, pm_i0, pm_i1, Nat.reduceAdd, Nat.reduceMul, Int.toNat_natCast, Int.toNat_zero, z0, hm, not_true_eq_false, not_false_eq_true, and_self, true_and, and_true, ↓reduceIte, Int.reduceEq, Int.reduceLT, Int.reduceLE, Int.reduceNeg, Bool.false_eq_true]
  · refine Op.same hI (-1) (by decide) ?_ ?_
    · simp (disch := first | assumption | decide +kernel | omega | (split <;> omega)) only [q_79_0, q_79_1, q_79_4, q_79_5, q_79_8, q_79_11, q_79_12, q_79_13, q_79_14, q_79_17, q_79_18, q_79_21, q_79_24, q_79_25, q_79_28, q_79_29, c_hasLink, pm_some, Option.toList_some, Option.toList_none, List.cons_append, List.nil_append, pm_i0, pm_i1, Nat.reduceAdd, Nat.reduceMul, Int.toNat_natCast, Int.toNat_zero, a1, hm, not_true_eq_false, not_false_eq_true, and_self, true_and, and_true, ↓reduceIte, Int.reduceEq, Int.reduceLT, Int.reduceLE, Int.reduceNeg, Bool.false_eq_true]
    · simp (disch := first | assumption | decide +kernel | omega | (split <;> omega)) only [q_115_0, q_115_1, q_115_2, q_115_5, q_115_8, q_115_9, q_115_12, q_115_13, q_115_14, q_115_17, q_115_20, q_115_21, q_115_24, q_115_25, c_noLink, pm_some, Option.toList_some, Option.toList_none, List.cons_append, List.nil_append, pm_i0, pm_i1, Nat.reduceAdd, Nat.reduceMul, Int.toNat_natCast, Int.toNat_zero, hm, not_true_eq_false, not_false_eq_true, and_self, true_and, and_true, ↓reduceIte, Int.reduceEq, Int.reduceLT, Int.reduceLE, Int.reduceNeg, Bool.false_eq_true]
