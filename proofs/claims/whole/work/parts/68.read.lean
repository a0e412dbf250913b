/-! a copy is read -/
def FrW (Y Y' : Nat → Nat → Int) : Prop := (∀ a, a ≠ 190 → a ≠ 209 → Y' a = Y a) ∧ ∀ q, q ≠ 27 → Y' 190 q = Y 190 q
theorem FrW.rfl {Y : Nat → Nat → Int} : FrW Y Y := ⟨fun _ _ _ => Eq.refl _, fun _ _ => Eq.refl _⟩
theorem FrW.trans {Y Y' Y'' : Nat → Nat → Int} (h : FrW Y Y') (h' : FrW Y' Y'') : FrW Y Y'' := ⟨fun a h1 h2 => (h'.1 a h1 h2).trans (h.1 a h1 h2), fun q hq => (h'.2 q hq).trans (h.2 q hq)⟩
theorem FrW.agT {Z Y : Nat → Nat → Int} (h : FrW Z Y) : AgT Y Z := ⟨h.2 13 (by omega), h.2 15 (by omega), fun a h1 h2 => h.1 a (by omega) (by omega)⟩
def wt (Y : Nat → Nat → Int) (w : Nat) (x : Int) : Nat → Nat → Int := pm_up (pm_up Y 209 w x) 190 27 ((w : Int) + 1)
theorem wt_fr {Y : Nat → Nat → Int} {w : Nat} {x : Int} : FrW Y (wt Y w x) := by
  refine ⟨fun a h1 h2 => ?_, fun q hq => ?_⟩
  · unfold wt
    rw [pm_up_row h1, pm_up_row h2]
  · unfold wt
    rw [pm_up_ne (by omega), pm_up_row (by omega)]
theorem wt_27 {Y : Nat → Nat → Int} {w : Nat} {x : Int} : wt Y w x 190 27 = ((w + 1 : Nat) : Int) := by
  unfold wt
  rw [pm_up_same]
  omega
theorem wt_at {Y : Nat → Nat → Int} {w q : Nat} {x : Int} : wt Y w x 209 q = if q = w then x else Y 209 q := by
  unfold wt
  rw [pm_up_row (by omega)]
  by_cases h : q = w
  · subst h
    rw [if_pos rfl, pm_up_same]
  · rw [if_neg h, pm_up_ne (by omega)]
theorem c_write (w : Nat) (x : Int) (L : Nat) (Y : Nat → Nat → Int) (W : Nat → Nat) (hw : w < 400) (hy : Y 190 27 = (w : Int)) : pm_D (143, 0, [.ref 190, .int (pm_J x)], [], pm_hp L Y W) = some (none, pm_hp L (wt Y w x) W) := by
  have h2 : pm_up Y 209 w x 190 27 = (w : Int) := by rw [pm_up_row (by omega)]; exact hy
  have c400 : (w : Int) < 400 := by omega
  simp (disch := first | assumption | decide +kernel | omega | (split <;> omega)) only [q_143_0, q_143_1, q_143_4, q_143_5, q_143_8, q_143_9, q_143_10, q_143_11, q_143_12, q_143_15, q_143_16, q_143_17, q_143_20, pm_some, Option.toList_some, Option.toList_none, List.cons_append, List.nil_append, pm_i0, pm_i1, Nat.reduceAdd, Nat.reduceMul, Int.toNat_natCast, Int.toNat_zero, hy, h2]
  rfl
theorem c_charFor (x : Int) (L : Nat) (Z : Nat → Nat → Int) (W : Nat → Nat) (hx : pm_r x) : pm_D (10, 0, [.int (pm_J x)], [], pm_hp L Z W) = some (some (.int (pm_J (if 1 ≤ x ∧ x ≤ 26 then 96 + x else if x = 27 then 32 else 35))), pm_hp L Z W) := by
  by_cases c : 1 ≤ x ∧ x ≤ 26
  · have e : 97 + x - 1 = 96 + x := by omega
    simp (disch := first | assumption | decide +kernel | omega | (split <;> omega)) only [q_10_0, q_10_1, q_10_2, q_10_4, q_10_7, q_10_10, q_10_12, q_10_13, q_10_14, q_10_15, q_10_16, q_10_17, q_10_18, q_10_20, q_10_23, q_10_25, q_10_28, q_10_30, c_isWithin, pm_some, Option.toList_some, Option.toList_none, List.cons_append, List.nil_append, pm_i0, pm_i1, Nat.reduceAdd, Nat.reduceMul, Int.toNat_natCast, Int.toNat_zero, not_true_eq_false, not_false_eq_true, and_self, true_and, and_true, ↓reduceIte, Int.reduceEq, Int.reduceLT, Int.reduceLE, Int.reduceNeg, Bool.false_eq_true, c, e]
  · by_cases c2 : x = 27
    · simp (disch := first | assumption | decide +kernel | omega | (split <;> omega)) only [q_10_0, q_10_1, q_10_2, q_10_4, q_10_7, q_10_10, q_10_12, q_10_13, q_10_14, q_10_15, q_10_16, q_10_17, q_10_18, q_10_20, q_10_23, q_10_25, q_10_28, q_10_30, c_isWithin, pm_some, Option.toList_some, Option.toList_none, List.cons_append, List.nil_append, pm_i0, pm_i1, Nat.reduceAdd, Nat.reduceMul, Int.toNat_natCast, Int.toNat_zero, not_true_eq_false, not_false_eq_true, and_self, true_and, and_true, ↓reduceIte, Int.reduceEq, Int.reduceLT, Int.reduceLE, Int.reduceNeg, Bool.false_eq_true, c2]
    · simp (disch := first | assumption | decide +kernel | omega | (split <;> omega)) only [q_10_0, q_10_1, q_10_2, q_10_4, q_10_7, q_10_10, q_10_12, q_10_13, q_10_14, q_10_15, q_10_16, q_10_17, q_10_18, q_10_20, q_10_23, q_10_25, q_10_28, q_10_30, c_isWithin, pm_some, Option.toList_some, Option.toList_none, List.cons_append, List.nil_append, pm_i0, pm_i1, Nat.reduceAdd, Nat.reduceMul, Int.toNat_natCast, Int.toNat_zero, not_true_eq_false, not_false_eq_true, and_self, true_and, and_true, ↓reduceIte, Int.reduceEq, Int.reduceLT, Int.reduceLE, Int.reduceNeg, Bool.false_eq_true, c, c2]
theorem l_ww {Z : Nat → Nat → Int} {w0 n0 : Nat} (p r : Int) (L : Nat) (W : Nat → Nat) (hw : w0 < 20) (hn : Z 200 w0 = (n0 : Int)) (hn0 : n0 ≤ 10) : ∀ (n k : Nat) (Y : Nat → Nat → Int) (w : Nat), k + n = n0 → FrW Z Y → Y 190 27 = (w : Int) → w + n + 1 ≤ 400 → ∃ Y', pm_D (144, 20, [.ref 190, .int (pm_J p), .int (pm_J r), .int (pm_J (w0 : Int)), .int (pm_J (k : Int))], [], pm_hp L Y W) = some (none, pm_hp L Y' W) ∧ FrW Y Y' ∧ Y' 190 27 = ((w + n + 1 : Nat) : Int) ∧ ∀ q, Y' 209 q = if w ≤ q ∧ q < w + n + 1 then (if q < w + n then 96 + Z 201 (10 * w0 + (k + (q - w))) else 32) else Y 209 q := by
  intro n
  induction n with
  | zero =>
    intro k Y w hk A hy hc
    have hwr : ¬ (w0 : Int) < 0 := by omega
    have hw20 : (w0 : Int) < 20 := by omega
    have y2 : Y 200 w0 = (n0 : Int) := by rw [A.1 200 (by omega) (by omega)]; exact hn
    have hlt : ¬ (k : Int) < (n0 : Int) := by omega
    have hp := c_write w 32 L Y W (by omega) hy
    refine ⟨wt Y w 32, ?_, wt_fr, wt_27, fun q => ?_⟩
    · rw [q_144_20]
      simp (disch := first | assumption | decide +kernel | omega | (split <;> omega)) only [q_144_0, q_144_1, q_144_2, q_144_3, q_144_6, q_144_7, q_144_8, q_144_11, q_144_12, q_144_14, q_144_17, q_144_18, q_144_21, q_144_24, q_144_26, q_144_27, q_144_30, q_144_31, q_144_32, q_144_35, q_144_36, q_144_38, q_144_39, q_144_42, q_144_44, q_144_45, q_144_46, q_144_48, q_144_49, q_144_50, q_144_51, q_144_54, q_144_57, q_144_60, q_144_61, q_144_63, q_144_66, pm_some, Option.toList_some, Option.toList_none, List.cons_append, List.nil_append, pm_i0, pm_i1, Nat.reduceAdd, Nat.reduceMul, Int.toNat_natCast, Int.toNat_zero, not_true_eq_false, not_false_eq_true, and_self, true_and, and_true, ↓reduceIte, Int.reduceEq, Int.reduceLT, Int.reduceLE, Int.reduceNeg, Bool.false_eq_true, hwr, y2, hlt, hp]
    · rw [wt_at]
      by_cases h : q = w
      · rw [if_pos h, if_pos (show w ≤ q ∧ q < w + 0 + 1 by omega), if_neg (by omega)]
      · rw [if_neg h, if_neg (by omega)]
  | succ n ih =>
    intro k Y w hk A hy hc
    have hwr : ¬ (w0 : Int) < 0 := by omega
    have hw20 : (w0 : Int) < 20 := by omega
    have y2 : Y 200 w0 = (n0 : Int) := by rw [A.1 200 (by omega) (by omega)]; exact hn
    have hlt : (k : Int) < (n0 : Int) := by omega
    have e1 : (10 * (w0 : Int) + (k : Int)).toNat = 10 * w0 + k := by omega
    have x1 : 0 ≤ 10 * (w0 : Int) + (k : Int) := by omega
    have x2 : 10 * (w0 : Int) + (k : Int) < 200 := by omega
    have y3 : Y 201 (10 * w0 + k) = Z 201 (10 * w0 + k) := by rw [A.1 201 (by omega) (by omega)]
    have hp := c_write w (96 + Z 201 (10 * w0 + k)) L Y W (by omega) hy
    obtain ⟨Y', e, f, g0, g1⟩ := ih (k + 1) (wt Y w (96 + Z 201 (10 * w0 + k))) (w + 1) (by omega) (FrW.trans A wt_fr) wt_27 (by omega)
    rw [show (((k + 1 : Nat)) : Int) = (k : Int) + 1 by omega] at e
    refine ⟨Y', ?_, FrW.trans wt_fr f, by rw [g0]; omega, fun q => ?_⟩
    · rw [q_144_20]
      simp (disch := first | assumption | decide +kernel | omega | (split <;> omega)) only [q_144_0, q_144_1, q_144_2, q_144_3, q_144_6, q_144_7, q_144_8, q_144_11, q_144_12, q_144_14, q_144_17, q_144_18, q_144_21, q_144_24, q_144_26, q_144_27, q_144_30, q_144_31, q_144_32, q_144_35, q_144_36, q_144_38, q_144_39, q_144_42, q_144_44, q_144_45, q_144_46, q_144_48, q_144_49, q_144_50, q_144_51, q_144_54, q_144_57, q_144_60, q_144_61, q_144_63, q_144_66, pm_some, Option.toList_some, Option.toList_none, List.cons_append, List.nil_append, pm_i0, pm_i1, Nat.reduceAdd, Nat.reduceMul, Int.toNat_natCast, Int.toNat_zero, not_true_eq_false, not_false_eq_true, and_self, true_and, and_true, ↓reduceIte, Int.reduceEq, Int.reduceLT, Int.reduceLE, Int.reduceNeg, Bool.false_eq_true, hwr, y2, hlt, e1, y3, hp]
      exact e
    · rw [g1 q, wt_at]
      by_cases h1 : q = w
      · subst h1
        rw [if_neg (by omega), if_pos rfl, if_pos (show q ≤ q ∧ q < q + (n + 1) + 1 by omega), if_pos (by omega), show k + (q - q) = k by omega]
      · by_cases h2 : w + 1 ≤ q ∧ q < w + 1 + n + 1
        · rw [if_pos h2, if_pos (show w ≤ q ∧ q < w + (n + 1) + 1 by omega)]
          by_cases h3 : q < w + 1 + n
          · rw [if_pos h3, if_pos (show q < w + (n + 1) by omega), show k + 1 + (q - (w + 1)) = k + (q - w) by omega]
          · rw [if_neg h3, if_neg (show ¬ q < w + (n + 1) by omega)]
        · rw [if_neg h2, if_neg h1, if_neg (by omega)]
/-- a word of the book as it is read -/
theorem word_read {Z : Nat → Nat → Int} {W : Nat → Nat} (hB : bk Z W) (ht : tx Z) (p r : Int) (hp : pm_r p) (hr : pm_r r) (L : Nat) : ∃ (pl : Int) (n : Nat) (s : Nat → Int), (-1 ≤ pl ∧ pl < 20) ∧ (1 ≤ n ∧ n ≤ 10) ∧ (∀ j, 0 ≤ s j ∧ s j ≤ 200) ∧ pm_D (2, 0, [.ref 3, .int (pm_J p), .int (pm_J r), .null], [], pm_hp L Z W) = some (some (.int (pm_J pl)), pm_hp L Z W) ∧ (pl = -1 → n = 1) ∧ (pl ≠ -1 → pm_kd (W pl.toNat) = 7 ∧ Z (W pl.toNat) 1 = (n : Int)) ∧ (∀ j : Nat, j ≤ n → pm_D (9, 0, [.ref 3, .int (pm_J pl), .int (pm_J (j : Int))], [], pm_hp L Z W) = some (some (.int (pm_J (s j))), pm_hp L Z W)) ∧ (∀ (Y : Nat → Nat → Int) (w : Nat), FrW Z Y → Y 190 27 = (w : Int) → w + n + 1 ≤ 400 → ∃ Y', pm_D (144, 0, [.ref 190, .int (pm_J p), .int (pm_J r), .null, .null], [], pm_hp L Y W) = some (none, pm_hp L Y' W) ∧ FrW Y Y' ∧ Y' 190 27 = ((w + n + 1 : Nat) : Int) ∧ ∀ q, Y' 209 q = if w ≤ q ∧ q < w + n + 1 then s (q - w) else Y 209 q) := by
  have BC := bkC_of hB
  have BR := bkR_of hB ht
  obtain ⟨⟨b0, b1, b1'⟩, b2, b3, b4, b5, b6, b7, b8⟩ := id hB
  have hpa := c_placeAt p r L Z W hp hr BC
  have hwy : ∀ Y, FrW Z Y → pm_D (122, 0, [.ref 190, .int (pm_J p), .int (pm_J r), .null], [], pm_hp L Y W) = some (some (.int (pm_J (fi (fun w => Z 202 w = p ∧ Z 203 w = r) (Z 190 15).toNat 0))), pm_hp L Y W) := fun Y A => by
    have h := c_wordBy p r L Y W hp hr (bkR_ag A.agT BR)
    rw [A.1 202 (by omega) (by omega), A.1 203 (by omega) (by omega), A.2 15 (by omega)] at h
    exact h
  rcases find_place p r hB with ⟨gc, gr, gn⟩ | ⟨i, w, hi, hwn, gc, gr, gs⟩
  · rw [gc] at hpa
    rw [gr] at hwy
    refine ⟨-1, 1, fun j => if j = 0 then 63 else 32, by omega, by omega, fun j => ?_, hpa, fun _ => rfl, fun q => absurd rfl q, fun j hj => ?_, fun Y w A hy hc => ?_⟩
    · show 0 ≤ (if j = 0 then (63 : Int) else 32) ∧ (if j = 0 then (63 : Int) else 32) ≤ 200
      split <;> omega
    · rcases (show j = 0 ∨ j = 1 by omega) with rfl | rfl
      · simp (disch := first | assumption | decide +kernel | omega | (split <;> omega)) only [q_9_0, q_9_1, q_9_2, q_9_5, q_9_6, q_9_9, q_9_11, q_9_14, q_9_16, q_9_17, q_9_18, q_9_19, q_9_22, q_9_23, q_9_24, q_9_27, q_9_30, q_9_31, q_9_34, q_9_35, q_9_36, q_9_39, q_9_40, q_9_41, q_9_44, q_9_47, q_9_49, pm_some, Option.toList_some, Option.toList_none, List.cons_append, List.nil_append, pm_i0, pm_i1, Nat.reduceAdd, Nat.reduceMul, Int.toNat_natCast, Int.toNat_zero, not_true_eq_false, not_false_eq_true, and_self, true_and, and_true, ↓reduceIte, Int.reduceEq, Int.reduceLT, Int.reduceLE, Int.reduceNeg, Bool.false_eq_true, Int.cast_ofNat_Int]
      · simp (disch := first | assumption | decide +kernel | omega | (split <;> omega)) only [q_9_0, q_9_1, q_9_2, q_9_5, q_9_6, q_9_9, q_9_11, q_9_14, q_9_16, q_9_17, q_9_18, q_9_19, q_9_22, q_9_23, q_9_24, q_9_27, q_9_30, q_9_31, q_9_34, q_9_35, q_9_36, q_9_39, q_9_40, q_9_41, q_9_44, q_9_47, q_9_49, pm_some, Option.toList_some, Option.toList_none, List.cons_append, List.nil_append, pm_i0, pm_i1, Nat.reduceAdd, Nat.reduceMul, Int.toNat_natCast, Int.toNat_zero, not_true_eq_false, not_false_eq_true, and_self, true_and, and_true, ↓reduceIte, Int.reduceEq, Int.reduceLT, Int.reduceLE, Int.reduceNeg, Bool.false_eq_true, Int.cast_ofNat_Int, Nat.one_ne_zero]
    · have p1 := c_write w 63 L Y W (by omega) hy
      have p2 := c_write (w + 1) 32 L (wt Y w 63) W (by omega) wt_27
      have hy' := hwy Y A
      refine ⟨wt (wt Y w 63) (w + 1) 32, ?_, FrW.trans wt_fr wt_fr, by rw [wt_27], fun q => ?_⟩
      · simp (disch := first | assumption | decide +kernel | omega | (split <;> omega)) only [q_144_0, q_144_1, q_144_2, q_144_3, q_144_6, q_144_7, q_144_8, q_144_11, q_144_12, q_144_14, q_144_17, q_144_18, q_144_20, q_144_21, q_144_24, q_144_26, q_144_27, q_144_30, q_144_31, q_144_32, q_144_35, q_144_36, q_144_38, q_144_39, q_144_42, q_144_44, q_144_45, q_144_46, q_144_48, q_144_49, q_144_50, q_144_51, q_144_54, q_144_57, q_144_60, q_144_61, q_144_63, q_144_66, pm_some, Option.toList_some, Option.toList_none, List.cons_append, List.nil_append, pm_i0, pm_i1, Nat.reduceAdd, Nat.reduceMul, Int.toNat_natCast, Int.toNat_zero, not_true_eq_false, not_false_eq_true, and_self, true_and, and_true, ↓reduceIte, Int.reduceEq, Int.reduceLT, Int.reduceLE, Int.reduceNeg, Bool.false_eq_true, hy', p1, p2]
      · rw [wt_at, wt_at]
        show _ = if w ≤ q ∧ q < w + 1 + 1 then (if q - w = 0 then 63 else 32) else _
        by_cases h1 : q = w + 1
        · rw [if_pos h1, if_pos (show w ≤ q ∧ q < w + 1 + 1 by omega), if_neg (by omega)]
        · rw [if_neg h1]
          by_cases h2 : q = w
          · rw [if_pos h2, if_pos (show w ≤ q ∧ q < w + 1 + 1 by omega), if_pos (by omega)]
          · rw [if_neg h2, if_neg (by omega)]
  · rw [gc] at hpa
    rw [gr] at hwy
    obtain ⟨x1, x2, x3, x4, x5, x6, x7⟩ := b4 w hwn
    obtain ⟨y1, y2, y3, y4⟩ := id gs
    obtain ⟨j, hj, hW⟩ := b2 i (by omega)
    obtain ⟨kw1, kw2, kw3⟩ := kWord hj hW
    obtain ⟨n, hn⟩ : ∃ n : Nat, Z 200 w = (n : Int) := ⟨(Z 200 w).toNat, by omega⟩
    have yn : Z (W i) 1 = (n : Int) := by rw [y1]; exact hn
    refine ⟨(i : Int), n, fun j => if j < n then 96 + Z 201 (10 * w + j) else 32, by omega, by omega, fun j => ?_, hpa, fun q => by omega, fun _ => by rw [Int.toNat_natCast]; exact ⟨kw1, yn⟩, fun j hj => ?_, fun Y v A hy hc => ?_⟩
    · show 0 ≤ (if j < n then 96 + Z 201 (10 * w + j) else 32) ∧ (if j < n then 96 + Z 201 (10 * w + j) else 32) ≤ 200
      split
      · have := x7 j (by omega)
        omega
      · omega
    · have hi0 : ¬ (i : Int) = -1 := by omega
      have hir : pm_r (i : Int) := by omega
      have hi20 : (i : Int) < 20 := by omega
      by_cases c : j < n
      · have c' : (j : Int) < (n : Int) := by omega
        have hl := x7 j (by omega)
        have e : Z (W i + 1) j = Z 201 (10 * w + j) := y4 j (by omega)
        have hc := c_charFor (Z 201 (10 * w + j)) L Z W (by omega)
        rw [if_pos hl] at hc
        have j10 : (j : Int) < 10 := by omega
        simp (disch := first | assumption | decide +kernel | omega | (split <;> omega)) only [q_9_0, q_9_1, q_9_2, q_9_5, q_9_6, q_9_9, q_9_11, q_9_14, q_9_16, q_9_17, q_9_18, q_9_19, q_9_22, q_9_23, q_9_24, q_9_27, q_9_30, q_9_31, q_9_34, q_9_35, q_9_36, q_9_39, q_9_40, q_9_41, q_9_44, q_9_47, q_9_49, pm_some, Option.toList_some, Option.toList_none, List.cons_append, List.nil_append, pm_i0, pm_i1, Nat.reduceAdd, Nat.reduceMul, Int.toNat_natCast, Int.toNat_zero, not_true_eq_false, not_false_eq_true, and_self, true_and, and_true, ↓reduceIte, Int.reduceEq, Int.reduceLT, Int.reduceLE, Int.reduceNeg, Bool.false_eq_true, hi0, yn, c', e, hc, c]
      · have c' : ¬ (j : Int) < (n : Int) := by omega
        have jr : pm_r (j : Int) := by omega
        simp (disch := first | assumption | decide +kernel | omega | (split <;> omega)) only [q_9_0, q_9_1, q_9_2, q_9_5, q_9_6, q_9_9, q_9_11, q_9_14, q_9_16, q_9_17, q_9_18, q_9_19, q_9_22, q_9_23, q_9_24, q_9_27, q_9_30, q_9_31, q_9_34, q_9_35, q_9_36, q_9_39, q_9_40, q_9_41, q_9_44, q_9_47, q_9_49, pm_some, Option.toList_some, Option.toList_none, List.cons_append, List.nil_append, pm_i0, pm_i1, Nat.reduceAdd, Nat.reduceMul, Int.toNat_natCast, Int.toNat_zero, not_true_eq_false, not_false_eq_true, and_self, true_and, and_true, ↓reduceIte, Int.reduceEq, Int.reduceLT, Int.reduceLE, Int.reduceNeg, Bool.false_eq_true, hi0, yn, c', c]
    · obtain ⟨Y', e, f, g0, g1⟩ := l_ww (Z := Z) p r L W (w0 := w) (n0 := n) (by omega) hn (by omega) n 0 Y v (by omega) A hy (by omega)
      rw [show (((0 : Nat)) : Int) = 0 from rfl] at e
      have hy' := hwy Y A
      have hw0 : 0 ≤ (w : Int) := by omega
      have hw1 : ¬ (w : Int) < 0 := by omega
      have hwr : pm_r (w : Int) := by omega
      refine ⟨Y', ?_, f, g0, fun q => ?_⟩
      · simp (disch := first | assumption | decide +kernel | omega | (split <;> omega)) only [q_144_0, q_144_1, q_144_2, q_144_3, q_144_6, q_144_7, q_144_8, q_144_11, q_144_12, q_144_14, q_144_17, q_144_18, q_144_21, q_144_24, q_144_26, q_144_27, q_144_30, q_144_31, q_144_32, q_144_35, q_144_36, q_144_38, q_144_39, q_144_42, q_144_44, q_144_45, q_144_46, q_144_48, q_144_49, q_144_50, q_144_51, q_144_54, q_144_57, q_144_60, q_144_61, q_144_63, q_144_66, pm_some, Option.toList_some, Option.toList_none, List.cons_append, List.nil_append, pm_i0, pm_i1, Nat.reduceAdd, Nat.reduceMul, Int.toNat_natCast, Int.toNat_zero, not_true_eq_false, not_false_eq_true, and_self, true_and, and_true, ↓reduceIte, Int.reduceEq, Int.reduceLT, Int.reduceLE, Int.reduceNeg, Bool.false_eq_true, hy', hw0, hw1]
        exact e
      · rw [g1 q]
        by_cases h : v ≤ q ∧ q < v + n + 1
        · rw [if_pos h, if_pos h]
          show _ = if q - v < n then _ else _
          by_cases h2 : q < v + n
          · rw [if_pos h2, if_pos (show q - v < n by omega), Nat.zero_add]
          · rw [if_neg h2, if_neg (show ¬ q - v < n by omega)]
        · rw [if_neg h, if_neg h]
/-- what is read from sign k on -/
def Rd (L : Nat) (W : Nat → Nat) (Z : Nat → Nat → Int) (m t N k : Nat) : Prop := ∃ (r : Nat) (s : Nat → Int), r ≤ 11 * (N - k) ∧ (∀ j, 0 ≤ s j ∧ s j ≤ 200) ∧
  (∀ (i0 : Int) (left : Nat) (v7 v8 v9 : Value), left < 2147483648 → pm_D (8, 25, [.ref 3, .ref (61 + 5 * m), .int (pm_J (t : Int)), .int (pm_J i0), .int (pm_J (left : Int)), .int (pm_J (N : Int)), .int (pm_J (k : Int)), v7, v8, v9], [], pm_hp L Z W) = some (some (.int (pm_J (if left < r then s left else -6))), pm_hp L Z W)) ∧
  (∀ (Y : Nat → Nat → Int) (w : Nat) (v5 : Value), FrW Z Y → Y 190 27 = (w : Int) → w + 11 * (N - k) ≤ 400 → ∃ Y', pm_D (145, 15, [.ref 190, .int (pm_J (m : Int)), .int (pm_J (t : Int)), .int (pm_J (N : Int)), .int (pm_J (k : Int)), v5], [], pm_hp L Y W) = some (none, pm_hp L Y' W) ∧ FrW Y Y' ∧ Y' 190 27 = ((w + r : Nat) : Int) ∧ ∀ q, Y' 209 q = if w ≤ q ∧ q < w + r then s (q - w) else Y 209 q)
theorem read_both {T : Int} {Z : Nat → Nat → Int} {W : Nat → Nat} {m t N : Nat} (hB : bk Z W) (ht : tx Z) (hm : m < 10) (h : lm (61 + 5 * m) T Z m) (h8 : Z 190 0 ≤ 8) (t0 : Z (61 + 5 * m) 3 ≤ t) (t1 : (t : Int) ≤ Z (61 + 5 * m) 4) (hN : Z (61 + 5 * m + 2) t = (N : Int)) (L : Nat) : ∀ n k : Nat, k + n = N → Rd L W Z m t N k := by
  obtain ⟨k1, k2, k3, k4, k5, k6, k7, k8, k9⟩ := kM46 (n := m) hm
  obtain ⟨⟨⟨s1, s2, s3, s4, s5, s6, s7⟩, ⟨s8, s9, s10⟩, s11, s12, s13, s14, s15, s16, s17, s18, s19⟩, -, ml, mp, mc, mo⟩ := h
  have b3 : 0 ≤ Z (61 + 5 * m) 3 := by rw [s9]; split <;> omega
  have b4 : Z (61 + 5 * m) 4 < 8 := by rw [s10]; split <;> omega
  have t8 : t < 8 := by omega
  have hl := ml t t0 t1
  have hlen : ∀ u : Nat, Z (61 + 5 * m) 3 ≤ u → (u : Int) ≤ Z (61 + 5 * m) 4 → 0 ≤ Z (61 + 5 * m + 2) u ∧ Z (61 + 5 * m + 2) u ≤ 30 := fun u h1 h2 => by
    have := ml u h1 h2
    omega
  have n30 : N ≤ 30 := by omega
  have sgC : ∀ k : Nat, k < N → pm_D (50, 0, [.ref (61 + 5 * m), .int (pm_J (t : Int)), .int (pm_J (k : Int))], [], pm_hp L Z W) = some (some (.int (pm_J (Z (61 + 5 * m + 1) (t * 30 + k)))), pm_hp L Z W) := fun k hk => by
    have h := c_signAt (61 + 5 * m) (t : Int) (k : Int) L Z W k1 k2 k3 k4 k5 (by omega) (by omega) b3 b4 (by omega) hlen
    rw [if_pos ⟨⟨t0, t1⟩, by omega, by rw [Int.toNat_natCast, hN]; omega⟩, show ((t : Int) * 30 + (k : Int)).toNat = t * 30 + k by omega] at h
    exact h
  have sgR : ∀ (Y : Nat → Nat → Int) (k : Nat), FrW Z Y → k < N → pm_D (129, 0, [.ref 190, .int (pm_J (m : Int)), .int (pm_J (t : Int)), .int (pm_J (k : Int))], [], pm_hp L Y W) = some (some (.int (pm_J (Z (61 + 5 * m + 1) (t * 30 + k)))), pm_hp L Y W) := fun Y k A hk => by
    have h := c_R_signAt (m : Int) (t : Int) (k : Int) L Y W (by omega) (by omega) (by omega) (by omega) (by omega) (by omega)
    rw [A.1 191 (by omega) (by omega), show (311 + 30 * (8 * (m : Int) + (t : Int)) + (k : Int)).toNat = 311 + 30 * (8 * m + t) + k by omega, ← (mc t k t0 t1 (by omega)).1] at h
    exact h
  have sgb : ∀ k : Nat, k < N → 0 ≤ Z (61 + 5 * m + 1) (t * 30 + k) ∧ Z (61 + 5 * m + 1) (t * 30 + k) ≤ 99 := fun k hk => (mc t k t0 t1 (by omega)).2
  intro n
  induction n using Nat.strongRecOn with
  | ind n ih =>
    intro k hk
    have hNr : pm_r (N : Int) := by omega
    have hkr : pm_r (k : Int) := by omega
    by_cases h0 : k = N
    · subst h0
      refine ⟨0, fun _ => 0, by omega, fun _ => ⟨Int.le_refl _, by show (0 : Int) ≤ 200; omega⟩, fun i0 left v7 v8 v9 hL => ?_, fun Y w v5 A hy hc => ⟨Y, ?_, FrW.rfl, hy, fun q => by rw [if_neg (by omega)]⟩⟩
      · rw [if_neg (by omega), q_8_25]
        simp (disch := first | assumption | decide +kernel | omega | (split <;> omega)) only [q_8_0, q_8_1, q_8_2, q_8_5, q_8_8, q_8_10, q_8_11, q_8_12, q_8_14, q_8_15, q_8_18, q_8_19, q_8_20, q_8_22, q_8_23, q_8_27, q_8_29, q_8_32, q_8_33, q_8_34, q_8_36, q_8_39, q_8_41, q_8_43, q_8_45, q_8_48, q_8_50, q_8_51, q_8_52, q_8_54, q_8_57, q_8_58, q_8_59, q_8_60, q_8_62, q_8_63, q_8_64, q_8_67, q_8_68, q_8_69, q_8_71, q_8_72, q_8_73, q_8_76, q_8_79, q_8_81, q_8_83, q_8_84, q_8_87, q_8_88, q_8_91, q_8_92, q_8_95, q_8_97, q_8_98, q_8_101, q_8_103, q_8_105, q_8_107, q_8_110, q_8_111, q_8_113, q_8_115, q_8_118, q_8_119, q_8_121, q_8_123, q_8_124, q_8_125, q_8_126, q_8_128, q_8_131, q_8_134, q_8_136, q_8_139, q_8_141, q_8_144, q_8_145, q_8_148, q_8_151, q_8_154, q_8_156, pm_some, Option.toList_some, Option.toList_none, List.cons_append, List.nil_append, pm_i0, pm_i1, Nat.reduceAdd, Nat.reduceMul, Int.toNat_natCast, Int.toNat_zero, not_true_eq_false, not_false_eq_true, and_self, true_and, and_true, ↓reduceIte, Int.reduceEq, Int.reduceLT, Int.reduceLE, Int.reduceNeg, Bool.false_eq_true, Int.lt_irrefl]
      · rw [q_145_15]
        simp (disch := first | assumption | decide +kernel | omega | (split <;> omega)) only [q_145_0, q_145_1, q_145_2, q_145_5, q_145_6, q_145_7, q_145_8, q_145_11, q_145_12, q_145_13, q_145_17, q_145_18, q_145_21, q_145_22, q_145_23, q_145_24, q_145_26, q_145_29, q_145_31, q_145_33, q_145_35, q_145_38, q_145_40, q_145_41, q_145_42, q_145_43, q_145_46, q_145_47, q_145_48, q_145_49, q_145_50, q_145_52, q_145_53, q_145_54, q_145_57, q_145_58, q_145_59, q_145_60, q_145_62, q_145_63, q_145_64, q_145_67, q_145_70, q_145_73, q_145_76, q_145_77, q_145_79, q_145_80, q_145_82, q_145_85, q_145_88, q_145_90, q_145_92, q_145_93, q_145_96, q_145_98, q_145_100, q_145_103, q_145_105, q_145_108, q_145_110, q_145_113, q_145_116, q_145_119, pm_some, Option.toList_some, Option.toList_none, List.cons_append, List.nil_append, pm_i0, pm_i1, Nat.reduceAdd, Nat.reduceMul, Int.toNat_natCast, Int.toNat_zero, not_true_eq_false, not_false_eq_true, and_self, true_and, and_true, ↓reduceIte, Int.reduceEq, Int.reduceLT, Int.reduceLE, Int.reduceNeg, Bool.false_eq_true, Int.lt_irrefl]
    · have hlt : (k : Int) < (N : Int) := by omega
      have g0 := sgb k (by omega)
      have hsC := sgC k (by omega)
      have hsR := fun Y A => sgR Y k A (by omega)
      by_cases hb : Z (61 + 5 * m + 1) (t * 30 + k) = 28 ∧ k + 2 < N
      · obtain ⟨h28, hk2⟩ := hb
        have hk2' : (k : Int) + 2 < (N : Int) := by omega
        have g1 := sgb (k + 1) (by omega)
        have g2 := sgb (k + 2) (by omega)
        have hsC1 := sgC (k + 1) (by omega)
        have hsC2 := sgC (k + 2) (by omega)
        have hsR1 := fun Y A => sgR Y (k + 1) A (by omega)
        have hsR2 := fun Y A => sgR Y (k + 2) A (by omega)
        rw [show (((k + 1 : Nat)) : Int) = (k : Int) + 1 by omega] at hsC1
        rw [show (((k + 2 : Nat)) : Int) = (k : Int) + 2 by omega] at hsC2
        simp only [show (((k + 1 : Nat)) : Int) = (k : Int) + 1 by omega] at hsR1
        simp only [show (((k + 2 : Nat)) : Int) = (k : Int) + 2 by omega] at hsR2
        rw [h28] at hsC
        simp only [h28] at hsR
        obtain ⟨pl, n1, s1', ⟨p1, p2⟩, ⟨p3, p4⟩, p5, hpa, pn, pw, hch, hww⟩ := word_read hB ht (Z (61 + 5 * m + 1) (t * 30 + (k + 1))) (Z (61 + 5 * m + 1) (t * 30 + (k + 2))) (by omega) (by omega) L
        obtain ⟨r2, s2', q1, q2, HC, HR⟩ := ih (N - (k + 3)) (by omega) (k + 3) (by omega)
        simp only [show (((k + 3 : Nat)) : Int) = (k : Int) + 3 by omega] at HC HR
        refine ⟨n1 + 1 + r2, fun j => if j < n1 + 1 then s1' j else s2' (j - (n1 + 1)), by omega, fun j => ?_, fun i0 left v7 v8 v9 hL => ?_, fun Y w v5 A hy hc => ?_⟩
        · show 0 ≤ (if j < n1 + 1 then s1' j else s2' (j - (n1 + 1))) ∧ (if j < n1 + 1 then s1' j else s2' (j - (n1 + 1))) ≤ 200
          split
          · exact p5 j
          · exact q2 _
        · have hlr : pm_r (left : Int) := by omega
          have plr : pm_r pl := by omega
          have nr : pm_r (n1 : Int) := by omega
          by_cases hl1 : left ≤ n1
          · have hng : ¬ (n1 : Int) < (left : Int) := by omega
            have hc1 := hch left hl1
            have hres : (if left < n1 + 1 + r2 then (if left < n1 + 1 then s1' left else s2' (left - (n1 + 1))) else -6) = s1' left := by rw [if_pos (by omega), if_pos (by omega)]
            show _ = some (some (Value.int (pm_J (if left < n1 + 1 + r2 then (if left < n1 + 1 then s1' left else s2' (left - (n1 + 1))) else -6))), pm_hp L Z W)
            rw [hres, q_8_25]
            by_cases hpl : pl = -1
            · have hn1 := pn hpl
              subst hpl
              subst hn1
              have hng' : ¬ (1 : Int) < (left : Int) := by omega
              simp (disch := first | assumption | decide +kernel | omega | (split <;> omega)) only [q_8_0, q_8_1, q_8_2, q_8_5, q_8_8, q_8_10, q_8_11, q_8_12, q_8_14, q_8_15, q_8_18, q_8_19, q_8_20, q_8_22, q_8_23, q_8_27, q_8_29, q_8_32, q_8_33, q_8_34, q_8_36, q_8_39, q_8_41, q_8_43, q_8_45, q_8_48, q_8_50, q_8_51, q_8_52, q_8_54, q_8_57, q_8_58, q_8_59, q_8_60, q_8_62, q_8_63, q_8_64, q_8_67, q_8_68, q_8_69, q_8_71, q_8_72, q_8_73, q_8_76, q_8_79, q_8_81, q_8_83, q_8_84, q_8_87, q_8_88, q_8_91, q_8_92, q_8_95, q_8_97, q_8_98, q_8_101, q_8_103, q_8_105, q_8_107, q_8_110, q_8_111, q_8_113, q_8_115, q_8_118, q_8_119, q_8_121, q_8_123, q_8_124, q_8_125, q_8_126, q_8_128, q_8_131, q_8_134, q_8_136, q_8_139, q_8_141, q_8_144, q_8_145, q_8_148, q_8_151, q_8_154, q_8_156, pm_some, Option.toList_some, Option.toList_none, List.cons_append, List.nil_append, pm_i0, pm_i1, Nat.reduceAdd, Nat.reduceMul, Int.toNat_natCast, Int.toNat_zero, not_true_eq_false, not_false_eq_true, and_self, true_and, and_true, ↓reduceIte, Int.reduceEq, Int.reduceLT, Int.reduceLE, Int.reduceNeg, Bool.false_eq_true, hlt, hsC, hk2', hsC1, hsC2, hpa, hng', hc1]
            · obtain ⟨kd, zl⟩ := pw hpl
              have p0 : 0 ≤ pl := by omega
              simp (disch := first | assumption | decide +kernel | omega | (split <;> omega)) only [q_8_0, q_8_1, q_8_2, q_8_5, q_8_8, q_8_10, q_8_11, q_8_12, q_8_14, q_8_15, q_8_18, q_8_19, q_8_20, q_8_22, q_8_23, q_8_27, q_8_29, q_8_32, q_8_33, q_8_34, q_8_36, q_8_39, q_8_41, q_8_43, q_8_45, q_8_48, q_8_50, q_8_51, q_8_52, q_8_54, q_8_57, q_8_58, q_8_59, q_8_60, q_8_62, q_8_63, q_8_64, q_8_67, q_8_68, q_8_69, q_8_71, q_8_72, q_8_73, q_8_76, q_8_79, q_8_81, q_8_83, q_8_84, q_8_87, q_8_88, q_8_91, q_8_92, q_8_95, q_8_97, q_8_98, q_8_101, q_8_103, q_8_105, q_8_107, q_8_110, q_8_111, q_8_113, q_8_115, q_8_118, q_8_119, q_8_121, q_8_123, q_8_124, q_8_125, q_8_126, q_8_128, q_8_131, q_8_134, q_8_136, q_8_139, q_8_141, q_8_144, q_8_145, q_8_148, q_8_151, q_8_154, q_8_156, pm_some, Option.toList_some, Option.toList_none, List.cons_append, List.nil_append, pm_i0, pm_i1, Nat.reduceAdd, Nat.reduceMul, Int.toNat_natCast, Int.toNat_zero, not_true_eq_false, not_false_eq_true, and_self, true_and, and_true, ↓reduceIte, Int.reduceEq, Int.reduceLT, Int.reduceLE, Int.reduceNeg, Bool.false_eq_true, hlt, hsC, hk2', hsC1, hsC2, hpa, hpl, zl, hng, hc1]
          · have hg : (n1 : Int) < (left : Int) := by omega
            have hres : (if left < n1 + 1 + r2 then (if left < n1 + 1 then s1' left else s2' (left - (n1 + 1))) else -6) = if left - (n1 + 1) < r2 then s2' (left - (n1 + 1)) else -6 := by
              by_cases q : left < n1 + 1 + r2
              · rw [if_pos q, if_neg (by omega), if_pos (by omega)]
              · rw [if_neg q, if_neg (by omega)]
            show _ = some (some (Value.int (pm_J (if left < n1 + 1 + r2 then (if left < n1 + 1 then s1' left else s2' (left - (n1 + 1))) else -6))), pm_hp L Z W)
            rw [hres, q_8_25]
            have hk3 : (k : Int) + 2 + 1 = (k : Int) + 3 := by omega
            have hll : (left : Int) - ((n1 : Int) + 1) = ((left - (n1 + 1) : Nat) : Int) := by omega
            by_cases hpl : pl = -1
            · have hn1 := pn hpl
              subst hpl
              subst hn1
              have hg' : (1 : Int) < (left : Int) := by omega
              have hll' : (left : Int) - (1 + 1) = ((left - (1 + 1) : Nat) : Int) := by omega
              have hC' := HC i0 (left - (1 + 1)) (.int (pm_J 28)) (.int (pm_J (-1))) (.int (pm_J 1)) (by omega)
              rw [← hC', ← hll']
              simp (disch := first | assumption | decide +kernel | omega | (split <;> omega)) only [q_8_0, q_8_1, q_8_2, q_8_5, q_8_8, q_8_10, q_8_11, q_8_12, q_8_14, q_8_15, q_8_18, q_8_19, q_8_20, q_8_22, q_8_23, q_8_27, q_8_29, q_8_32, q_8_33, q_8_34, q_8_36, q_8_39, q_8_41, q_8_43, q_8_45, q_8_48, q_8_50, q_8_51, q_8_52, q_8_54, q_8_57, q_8_58, q_8_59, q_8_60, q_8_62, q_8_63, q_8_64, q_8_67, q_8_68, q_8_69, q_8_71, q_8_72, q_8_73, q_8_76, q_8_79, q_8_81, q_8_83, q_8_84, q_8_87, q_8_88, q_8_91, q_8_92, q_8_95, q_8_97, q_8_98, q_8_101, q_8_103, q_8_105, q_8_107, q_8_110, q_8_111, q_8_113, q_8_115, q_8_118, q_8_119, q_8_121, q_8_123, q_8_124, q_8_125, q_8_126, q_8_128, q_8_131, q_8_134, q_8_136, q_8_139, q_8_141, q_8_144, q_8_145, q_8_148, q_8_151, q_8_154, q_8_156, pm_some, Option.toList_some, Option.toList_none, List.cons_append, List.nil_append, pm_i0, pm_i1, Nat.reduceAdd, Nat.reduceMul, Int.toNat_natCast, Int.toNat_zero, not_true_eq_false, not_false_eq_true, and_self, true_and, and_true, ↓reduceIte, Int.reduceEq, Int.reduceLT, Int.reduceLE, Int.reduceNeg, Bool.false_eq_true, hlt, hsC, hk2', hsC1, hsC2, hpa, hg', hk3]
            · obtain ⟨kd, zl⟩ := pw hpl
              have p0 : 0 ≤ pl := by omega
              have hC' := HC i0 (left - (n1 + 1)) (.int (pm_J 28)) (.int (pm_J pl)) (.int (pm_J (n1 : Int))) (by omega)
              rw [← hC', ← hll]
              simp (disch := first | assumption | decide +kernel | omega | (split <;> omega)) only [q_8_0, q_8_1, q_8_2, q_8_5, q_8_8, q_8_10, q_8_11, q_8_12, q_8_14, q_8_15, q_8_18, q_8_19, q_8_20, q_8_22, q_8_23, q_8_27, q_8_29, q_8_32, q_8_33, q_8_34, q_8_36, q_8_39, q_8_41, q_8_43, q_8_45, q_8_48, q_8_50, q_8_51, q_8_52, q_8_54, q_8_57, q_8_58, q_8_59, q_8_60, q_8_62, q_8_63, q_8_64, q_8_67, q_8_68, q_8_69, q_8_71, q_8_72, q_8_73, q_8_76, q_8_79, q_8_81, q_8_83, q_8_84, q_8_87, q_8_88, q_8_91, q_8_92, q_8_95, q_8_97, q_8_98, q_8_101, q_8_103, q_8_105, q_8_107, q_8_110, q_8_111, q_8_113, q_8_115, q_8_118, q_8_119, q_8_121, q_8_123, q_8_124, q_8_125, q_8_126, q_8_128, q_8_131, q_8_134, q_8_136, q_8_139, q_8_141, q_8_144, q_8_145, q_8_148, q_8_151, q_8_154, q_8_156, pm_some, Option.toList_some, Option.toList_none, List.cons_append, List.nil_append, pm_i0, pm_i1, Nat.reduceAdd, Nat.reduceMul, Int.toNat_natCast, Int.toNat_zero, not_true_eq_false, not_false_eq_true, and_self, true_and, and_true, ↓reduceIte, Int.reduceEq, Int.reduceLT, Int.reduceLE, Int.reduceNeg, Bool.false_eq_true, hlt, hsC, hk2', hsC1, hsC2, hpa, hpl, zl, hg, hk3]
        · obtain ⟨Y1, e1, f1, c1, d1⟩ := hww Y w A hy (by omega)
          obtain ⟨Y2, e2, f2, c2, d2⟩ := HR Y1 (w + n1 + 1) (.int (pm_J 28)) (FrW.trans A f1) c1 (by omega)
          have hk3 : (k : Int) + 2 + 1 = (k : Int) + 3 := by omega
          have a1 := hsR Y A
          have a2 := hsR1 Y A
          have a3 := hsR2 Y A
          refine ⟨Y2, ?_, FrW.trans f1 f2, by rw [c2]; omega, fun q => ?_⟩
          · rw [q_145_15]
            simp (disch := first | assumption | decide +kernel | omega | (split <;> omega)) only [q_145_0, q_145_1, q_145_2, q_145_5, q_145_6, q_145_7, q_145_8, q_145_11, q_145_12, q_145_13, q_145_17, q_145_18, q_145_21, q_145_22, q_145_23, q_145_24, q_145_26, q_145_29, q_145_31, q_145_33, q_145_35, q_145_38, q_145_40, q_145_41, q_145_42, q_145_43, q_145_46, q_145_47, q_145_48, q_145_49, q_145_50, q_145_52, q_145_53, q_145_54, q_145_57, q_145_58, q_145_59, q_145_60, q_145_62, q_145_63, q_145_64, q_145_67, q_145_70, q_145_73, q_145_76, q_145_77, q_145_79, q_145_80, q_145_82, q_145_85, q_145_88, q_145_90, q_145_92, q_145_93, q_145_96, q_145_98, q_145_100, q_145_103, q_145_105, q_145_108, q_145_110, q_145_113, q_145_116, q_145_119, pm_some, Option.toList_some, Option.toList_none, List.cons_append, List.nil_append, pm_i0, pm_i1, Nat.reduceAdd, Nat.reduceMul, Int.toNat_natCast, Int.toNat_zero, not_true_eq_false, not_false_eq_true, and_self, true_and, and_true, ↓reduceIte, Int.reduceEq, Int.reduceLT, Int.reduceLE, Int.reduceNeg, Bool.false_eq_true, hlt, a1, hk2', a2, a3, e1, hk3]
            exact e2
          · rw [d2 q, d1 q]
            show _ = if w ≤ q ∧ q < w + (n1 + 1 + r2) then (if q - w < n1 + 1 then s1' (q - w) else s2' (q - w - (n1 + 1))) else _
            by_cases h1 : w + n1 + 1 ≤ q ∧ q < w + n1 + 1 + r2
            · rw [if_pos h1, if_pos (show w ≤ q ∧ q < w + (n1 + 1 + r2) by omega), if_neg (by omega), show q - (w + n1 + 1) = q - w - (n1 + 1) by omega]
            · rw [if_neg h1]
              by_cases h2 : w ≤ q ∧ q < w + n1 + 1
              · rw [if_pos h2, if_pos (show w ≤ q ∧ q < w + (n1 + 1 + r2) by omega), if_pos (by omega)]
              · rw [if_neg h2, if_neg (show ¬ (w ≤ q ∧ q < w + (n1 + 1 + r2)) by omega)]
      · obtain ⟨r2, s2', q1, q2, HC, HR⟩ := ih (N - (k + 1)) (by omega) (k + 1) (by omega)
        simp only [show (((k + 1 : Nat)) : Int) = (k : Int) + 1 by omega] at HC HR
        obtain ⟨x, hx⟩ : ∃ x, x = Z (61 + 5 * m + 1) (t * 30 + k) := ⟨_, rfl⟩
        rw [← hx] at hsC g0
        simp only [← hx] at hsR
        rw [← hx] at hb
        have hxr : pm_r x := by omega
        have hcf := c_charFor x L Z W hxr
        have h134 : ∀ (i0 left : Int) (v7 v8 v9 : Value), pm_D (8, 25, [.ref 3, .ref (61 + 5 * m), .int (pm_J (t : Int)), .int (pm_J i0), .int (pm_J left), .int (pm_J (N : Int)), .int (pm_J (k : Int)), v7, v8, v9], [], pm_hp L Z W) = pm_D (8, 134, [.ref 3, .ref (61 + 5 * m), .int (pm_J (t : Int)), .int (pm_J i0), .int (pm_J left), .int (pm_J (N : Int)), .int (pm_J (k : Int)), .int (pm_J x), v8, v9], [], pm_hp L Z W) := fun i0 left v7 v8 v9 => by
          rw [q_8_25]
          by_cases c28 : x = 28
          · have c2 : ¬ (k : Int) + 2 < (N : Int) := by omega
            simp (disch := first | assumption | decide +kernel | omega | (split <;> omega)) only [q_8_0, q_8_1, q_8_2, q_8_5, q_8_8, q_8_10, q_8_11, q_8_12, q_8_14, q_8_15, q_8_18, q_8_19, q_8_20, q_8_22, q_8_23, q_8_27, q_8_29, q_8_32, q_8_33, q_8_34, q_8_36, q_8_39, q_8_41, q_8_43, q_8_45, q_8_48, q_8_50, q_8_51, q_8_52, q_8_54, q_8_57, q_8_58, q_8_59, q_8_60, q_8_62, q_8_63, q_8_64, q_8_67, q_8_68, q_8_69, q_8_71, q_8_72, q_8_73, q_8_76, q_8_79, q_8_81, q_8_83, q_8_84, q_8_87, q_8_88, q_8_91, q_8_92, q_8_95, q_8_97, q_8_98, q_8_101, q_8_103, q_8_105, q_8_107, q_8_110, q_8_111, q_8_113, q_8_115, q_8_118, q_8_119, q_8_121, q_8_123, q_8_124, q_8_125, q_8_126, q_8_128, q_8_131, q_8_136, q_8_139, q_8_141, q_8_144, q_8_145, q_8_148, q_8_151, q_8_154, q_8_156, pm_some, Option.toList_some, Option.toList_none, List.cons_append, List.nil_append, pm_i0, pm_i1, Nat.reduceAdd, Nat.reduceMul, Int.toNat_natCast, Int.toNat_zero, not_true_eq_false, not_false_eq_true, and_self, true_and, and_true, ↓reduceIte, Int.reduceEq, Int.reduceLT, Int.reduceLE, Int.reduceNeg, Bool.false_eq_true, hlt, hsC, c28, c2]
          · simp (disch := first | assumption | decide +kernel | omega | (split <;> omega)) only [q_8_0, q_8_1, q_8_2, q_8_5, q_8_8, q_8_10, q_8_11, q_8_12, q_8_14, q_8_15, q_8_18, q_8_19, q_8_20, q_8_22, q_8_23, q_8_27, q_8_29, q_8_32, q_8_33, q_8_34, q_8_36, q_8_39, q_8_41, q_8_43, q_8_45, q_8_48, q_8_50, q_8_51, q_8_52, q_8_54, q_8_57, q_8_58, q_8_59, q_8_60, q_8_62, q_8_63, q_8_64, q_8_67, q_8_68, q_8_69, q_8_71, q_8_72, q_8_73, q_8_76, q_8_79, q_8_81, q_8_83, q_8_84, q_8_87, q_8_88, q_8_91, q_8_92, q_8_95, q_8_97, q_8_98, q_8_101, q_8_103, q_8_105, q_8_107, q_8_110, q_8_111, q_8_113, q_8_115, q_8_118, q_8_119, q_8_121, q_8_123, q_8_124, q_8_125, q_8_126, q_8_128, q_8_131, q_8_136, q_8_139, q_8_141, q_8_144, q_8_145, q_8_148, q_8_151, q_8_154, q_8_156, pm_some, Option.toList_some, Option.toList_none, List.cons_append, List.nil_append, pm_i0, pm_i1, Nat.reduceAdd, Nat.reduceMul, Int.toNat_natCast, Int.toNat_zero, not_true_eq_false, not_false_eq_true, and_self, true_and, and_true, ↓reduceIte, Int.reduceEq, Int.reduceLT, Int.reduceLE, Int.reduceNeg, Bool.false_eq_true, hlt, hsC, c28]
        have h76 : ∀ (Y : Nat → Nat → Int) (v5 : Value), FrW Z Y → pm_D (145, 15, [.ref 190, .int (pm_J (m : Int)), .int (pm_J (t : Int)), .int (pm_J (N : Int)), .int (pm_J (k : Int)), v5], [], pm_hp L Y W) = pm_D (145, 76, [.ref 190, .int (pm_J (m : Int)), .int (pm_J (t : Int)), .int (pm_J (N : Int)), .int (pm_J (k : Int)), .int (pm_J x)], [], pm_hp L Y W) := fun Y v5 A => by
          have a1 := hsR Y A
          rw [q_145_15]
          by_cases c28 : x = 28
          · have c2 : ¬ (k : Int) + 2 < (N : Int) := by omega
            simp (disch := first | assumption | decide +kernel | omega | (split <;> omega)) only [q_145_0, q_145_1, q_145_2, q_145_5, q_145_6, q_145_7, q_145_8, q_145_11, q_145_12, q_145_13, q_145_17, q_145_18, q_145_21, q_145_22, q_145_23, q_145_24, q_145_26, q_145_29, q_145_31, q_145_33, q_145_35, q_145_38, q_145_40, q_145_41, q_145_42, q_145_43, q_145_46, q_145_47, q_145_48, q_145_49, q_145_50, q_145_52, q_145_53, q_145_54, q_145_57, q_145_58, q_145_59, q_145_60, q_145_62, q_145_63, q_145_64, q_145_67, q_145_70, q_145_73, q_145_77, q_145_79, q_145_80, q_145_82, q_145_85, q_145_88, q_145_90, q_145_92, q_145_93, q_145_96, q_145_98, q_145_100, q_145_103, q_145_105, q_145_108, q_145_110, q_145_113, q_145_116, q_145_119, pm_some, Option.toList_some, Option.toList_none, List.cons_append, List.nil_append, pm_i0, pm_i1, Nat.reduceAdd, Nat.reduceMul, Int.toNat_natCast, Int.toNat_zero, not_true_eq_false, not_false_eq_true, and_self, true_and, and_true, ↓reduceIte, Int.reduceEq, Int.reduceLT, Int.reduceLE, Int.reduceNeg, Bool.false_eq_true, hlt, a1, c28, c2]
          · simp (disch := first | assumption | decide +kernel | omega | (split <;> omega)) only [q_145_0, q_145_1, q_145_2, q_145_5, q_145_6, q_145_7, q_145_8, q_145_11, q_145_12, q_145_13, q_145_17, q_145_18, q_145_21, q_145_22, q_145_23, q_145_24, q_145_26, q_145_29, q_145_31, q_145_33, q_145_35, q_145_38, q_145_40, q_145_41, q_145_42, q_145_43, q_145_46, q_145_47, q_145_48, q_145_49, q_145_50, q_145_52, q_145_53, q_145_54, q_145_57, q_145_58, q_145_59, q_145_60, q_145_62, q_145_63, q_145_64, q_145_67, q_145_70, q_145_73, q_145_77, q_145_79, q_145_80, q_145_82, q_145_85, q_145_88, q_145_90, q_145_92, q_145_93, q_145_96, q_145_98, q_145_100, q_145_103, q_145_105, q_145_108, q_145_110, q_145_113, q_145_116, q_145_119, pm_some, Option.toList_some, Option.toList_none, List.cons_append, List.nil_append, pm_i0, pm_i1, Nat.reduceAdd, Nat.reduceMul, Int.toNat_natCast, Int.toNat_zero, not_true_eq_false, not_false_eq_true, and_self, true_and, and_true, ↓reduceIte, Int.reduceEq, Int.reduceLT, Int.reduceLE, Int.reduceNeg, Bool.false_eq_true, hlt, a1, c28]
        refine ⟨1 + r2, fun j => if j = 0 then (if 1 ≤ x ∧ x ≤ 26 then 96 + x else if x = 27 then 32 else 35) else s2' (j - 1), by omega, fun j => ?_, fun i0 left v7 v8 v9 hL => ?_, fun Y w v5 A hy hc => ?_⟩
        · show 0 ≤ (if j = 0 then (if 1 ≤ x ∧ x ≤ 26 then 96 + x else if x = 27 then 32 else 35) else s2' (j - 1)) ∧ (if j = 0 then (if 1 ≤ x ∧ x ≤ 26 then 96 + x else if x = 27 then 32 else 35) else s2' (j - 1)) ≤ 200
          by_cases c : j = 0
          · rw [if_pos c]
            split
            · omega
            · split <;> omega
          · rw [if_neg c]
            exact q2 _
        · rw [h134]
          have hlr : pm_r (left : Int) := by omega
          by_cases hl0 : left = 0
          · subst hl0
            show _ = some (some (Value.int (pm_J (if 0 < 1 + r2 then (if (0 : Nat) = 0 then _ else _) else -6))), pm_hp L Z W)
            rw [if_pos (by omega), if_pos rfl]
            simp (disch := first | assumption | decide +kernel | omega | (split <;> omega)) only [q_8_0, q_8_1, q_8_2, q_8_5, q_8_8, q_8_10, q_8_11, q_8_12, q_8_14, q_8_15, q_8_18, q_8_19, q_8_20, q_8_22, q_8_23, q_8_27, q_8_29, q_8_32, q_8_33, q_8_34, q_8_36, q_8_39, q_8_41, q_8_43, q_8_45, q_8_48, q_8_50, q_8_51, q_8_52, q_8_54, q_8_57, q_8_58, q_8_59, q_8_60, q_8_62, q_8_63, q_8_64, q_8_67, q_8_68, q_8_69, q_8_71, q_8_72, q_8_73, q_8_76, q_8_79, q_8_81, q_8_83, q_8_84, q_8_87, q_8_88, q_8_91, q_8_92, q_8_95, q_8_97, q_8_98, q_8_101, q_8_103, q_8_105, q_8_107, q_8_110, q_8_111, q_8_113, q_8_115, q_8_118, q_8_119, q_8_121, q_8_123, q_8_124, q_8_125, q_8_126, q_8_128, q_8_131, q_8_134, q_8_136, q_8_139, q_8_141, q_8_144, q_8_145, q_8_148, q_8_151, q_8_154, q_8_156, pm_some, Option.toList_some, Option.toList_none, List.cons_append, List.nil_append, pm_i0, pm_i1, Nat.reduceAdd, Nat.reduceMul, Int.toNat_natCast, Int.toNat_zero, not_true_eq_false, not_false_eq_true, and_self, true_and, and_true, ↓reduceIte, Int.reduceEq, Int.reduceLT, Int.reduceLE, Int.reduceNeg, Bool.false_eq_true, Int.cast_ofNat_Int, hcf]
          · have hl0' : ¬ (left : Int) = 0 := by omega
            have hres : (if left < 1 + r2 then (if left = 0 then (if 1 ≤ x ∧ x ≤ 26 then 96 + x else if x = 27 then 32 else 35) else s2' (left - 1)) else -6) = if left - 1 < r2 then s2' (left - 1) else -6 := by
              by_cases q : left < 1 + r2
              · rw [if_pos q, if_neg hl0, if_pos (show left - 1 < r2 by omega)]
              · rw [if_neg q, if_neg (by omega)]
            show _ = some (some (Value.int (pm_J (if left < 1 + r2 then (if left = 0 then (if 1 ≤ x ∧ x ≤ 26 then 96 + x else if x = 27 then 32 else 35) else s2' (left - 1)) else -6))), pm_hp L Z W)
            have hC' := HC i0 (left - 1) (.int (pm_J x)) v8 v9 (by omega)
            have hll : (left : Int) + -1 = ((left - 1 : Nat) : Int) := by omega
            rw [hres, ← hC', ← hll]
            simp (disch := first | assumption | decide +kernel | omega | (split <;> omega)) only [q_8_0, q_8_1, q_8_2, q_8_5, q_8_8, q_8_10, q_8_11, q_8_12, q_8_14, q_8_15, q_8_18, q_8_19, q_8_20, q_8_22, q_8_23, q_8_27, q_8_29, q_8_32, q_8_33, q_8_34, q_8_36, q_8_39, q_8_41, q_8_43, q_8_45, q_8_48, q_8_50, q_8_51, q_8_52, q_8_54, q_8_57, q_8_58, q_8_59, q_8_60, q_8_62, q_8_63, q_8_64, q_8_67, q_8_68, q_8_69, q_8_71, q_8_72, q_8_73, q_8_76, q_8_79, q_8_81, q_8_83, q_8_84, q_8_87, q_8_88, q_8_91, q_8_92, q_8_95, q_8_97, q_8_98, q_8_101, q_8_103, q_8_105, q_8_107, q_8_110, q_8_111, q_8_113, q_8_115, q_8_118, q_8_119, q_8_121, q_8_123, q_8_124, q_8_125, q_8_126, q_8_128, q_8_131, q_8_134, q_8_136, q_8_139, q_8_141, q_8_144, q_8_145, q_8_148, q_8_151, q_8_154, q_8_156, pm_some, Option.toList_some, Option.toList_none, List.cons_append, List.nil_append, pm_i0, pm_i1, Nat.reduceAdd, Nat.reduceMul, Int.toNat_natCast, Int.toNat_zero, not_true_eq_false, not_false_eq_true, and_self, true_and, and_true, ↓reduceIte, Int.reduceEq, Int.reduceLT, Int.reduceLE, Int.reduceNeg, Bool.false_eq_true, hl0']
        · have hwr := c_write w (if 1 ≤ x ∧ x ≤ 26 then 96 + x else if x = 27 then 32 else 35) L Y W (by omega) hy
          obtain ⟨Y2, e2, f2, c2, d2⟩ := HR (wt Y w (if 1 ≤ x ∧ x ≤ 26 then 96 + x else if x = 27 then 32 else 35)) (w + 1) (.int (pm_J x)) (FrW.trans A wt_fr) wt_27 (by omega)
          refine ⟨Y2, ?_, FrW.trans wt_fr f2, by rw [c2]; omega, fun q => ?_⟩
          · rw [h76 Y v5 A, ← e2]
            by_cases d1 : 1 ≤ x ∧ x ≤ 26
            · rw [if_pos d1] at hwr
              simp (disch := first | assumption | decide +kernel | omega | (split <;> omega)) only [q_145_0, q_145_1, q_145_2, q_145_5, q_145_6, q_145_7, q_145_8, q_145_11, q_145_12, q_145_13, q_145_17, q_145_18, q_145_21, q_145_22, q_145_23, q_145_24, q_145_26, q_145_29, q_145_31, q_145_33, q_145_35, q_145_38, q_145_40, q_145_41, q_145_42, q_145_43, q_145_46, q_145_47, q_145_48, q_145_49, q_145_50, q_145_52, q_145_53, q_145_54, q_145_57, q_145_58, q_145_59, q_145_60, q_145_62, q_145_63, q_145_64, q_145_67, q_145_70, q_145_73, q_145_76, q_145_77, q_145_79, q_145_80, q_145_82, q_145_85, q_145_88, q_145_90, q_145_92, q_145_93, q_145_96, q_145_98, q_145_100, q_145_103, q_145_105, q_145_108, q_145_110, q_145_113, q_145_116, q_145_119, c_in, pm_some, Option.toList_some, Option.toList_none, List.cons_append, List.nil_append, pm_i0, pm_i1, Nat.reduceAdd, Nat.reduceMul, Int.toNat_natCast, Int.toNat_zero, not_true_eq_false, not_false_eq_true, and_self, true_and, and_true, ↓reduceIte, Int.reduceEq, Int.reduceLT, Int.reduceLE, Int.reduceNeg, Bool.false_eq_true, d1, hwr]
            · rw [if_neg d1] at hwr
              by_cases d2' : x = 27
              · rw [if_pos d2'] at hwr
                simp (disch := first | assumption | decide +kernel | omega | (split <;> omega)) only [q_145_0, q_145_1, q_145_2, q_145_5, q_145_6, q_145_7, q_145_8, q_145_11, q_145_12, q_145_13, q_145_17, q_145_18, q_145_21, q_145_22, q_145_23, q_145_24, q_145_26, q_145_29, q_145_31, q_145_33, q_145_35, q_145_38, q_145_40, q_145_41, q_145_42, q_145_43, q_145_46, q_145_47, q_145_48, q_145_49, q_145_50, q_145_52, q_145_53, q_145_54, q_145_57, q_145_58, q_145_59, q_145_60, q_145_62, q_145_63, q_145_64, q_145_67, q_145_70, q_145_73, q_145_76, q_145_77, q_145_79, q_145_80, q_145_82, q_145_85, q_145_88, q_145_90, q_145_92, q_145_93, q_145_96, q_145_98, q_145_100, q_145_103, q_145_105, q_145_108, q_145_110, q_145_113, q_145_116, q_145_119, c_in, pm_some, Option.toList_some, Option.toList_none, List.cons_append, List.nil_append, pm_i0, pm_i1, Nat.reduceAdd, Nat.reduceMul, Int.toNat_natCast, Int.toNat_zero, not_true_eq_false, not_false_eq_true, and_self, true_and, and_true, ↓reduceIte, Int.reduceEq, Int.reduceLT, Int.reduceLE, Int.reduceNeg, Bool.false_eq_true, d2', hwr]
              · rw [if_neg d2'] at hwr
                simp (disch := first | assumption | decide +kernel | omega | (split <;> omega)) only [q_145_0, q_145_1, q_145_2, q_145_5, q_145_6, q_145_7, q_145_8, q_145_11, q_145_12, q_145_13, q_145_17, q_145_18, q_145_21, q_145_22, q_145_23, q_145_24, q_145_26, q_145_29, q_145_31, q_145_33, q_145_35, q_145_38, q_145_40, q_145_41, q_145_42, q_145_43, q_145_46, q_145_47, q_145_48, q_145_49, q_145_50, q_145_52, q_145_53, q_145_54, q_145_57, q_145_58, q_145_59, q_145_60, q_145_62, q_145_63, q_145_64, q_145_67, q_145_70, q_145_73, q_145_76, q_145_77, q_145_79, q_145_80, q_145_82, q_145_85, q_145_88, q_145_90, q_145_92, q_145_93, q_145_96, q_145_98, q_145_100, q_145_103, q_145_105, q_145_108, q_145_110, q_145_113, q_145_116, q_145_119, c_in, pm_some, Option.toList_some, Option.toList_none, List.cons_append, List.nil_append, pm_i0, pm_i1, Nat.reduceAdd, Nat.reduceMul, Int.toNat_natCast, Int.toNat_zero, not_true_eq_false, not_false_eq_true, and_self, true_and, and_true, ↓reduceIte, Int.reduceEq, Int.reduceLT, Int.reduceLE, Int.reduceNeg, Bool.false_eq_true, d1, d2', hwr]
          · rw [d2 q, wt_at]
            show _ = if w ≤ q ∧ q < w + (1 + r2) then (if q - w = 0 then (if 1 ≤ x ∧ x ≤ 26 then 96 + x else if x = 27 then 32 else 35) else s2' (q - w - 1)) else _
            by_cases h1 : w + 1 ≤ q ∧ q < w + 1 + r2
            · rw [if_pos h1, if_pos (show w ≤ q ∧ q < w + (1 + r2) by omega), if_neg (show ¬ q - w = 0 by omega), show q - (w + 1) = q - w - 1 by omega]
            · rw [if_neg h1]
              by_cases h2 : q = w
              · rw [if_pos h2, if_pos (show w ≤ q ∧ q < w + (1 + r2) by omega), if_pos (show q - w = 0 by omega)]
              · rw [if_neg h2, if_neg (show ¬ (w ≤ q ∧ q < w + (1 + r2)) by omega)]
theorem op_reading : Op_reading := by
  intro T L Z W hI hT0 hT a b c ha hb hc
  obtain ⟨⟨⟨a1, a2, a3, a4, a5, a6, a7, a8, a9, a10, a11⟩, ⟨⟨w1, w2, w3, w4, w5, w6⟩, ⟨w7, w8, w9⟩, w10⟩, ⟨⟨f1, f2, f3⟩, f4⟩, hms, hun, hco, hsh, htk⟩, htx, hbk, hon⟩ := id hI
  have a8' : 0 ≤ Z 46 4 := by omega
  have a9' : Z 46 4 ≤ 10 := by omega
  have a2' : 0 ≤ Z 46 2 := by omega
  have a3' : Z 46 2 ≤ 8 := by omega
  have a2'' : 0 ≤ Z 190 0 := by omega
  by_cases hm : 0 ≤ a ∧ a < Z 190 22
  · skip
    have hi : ((a.toNat : Nat) : Int) = a := by omega
    obtain ⟨k1, k2, k3, k4, k5, k6, k7, k8, k9⟩ := kM46 (n := a.toNat) (by omega)
    have hmm : lm (61 + 5 * a.toNat) T Z a.toNat := hms a.toNat (by omega)
    obtain ⟨⟨⟨s1, s2, s3, s4, s5, s6, s7⟩, ⟨s8, s9, s10⟩, s11, s12, s13, s14, s15, s16, s17, s18, s19⟩, ⟨d1, d2, d3, d4, d5, d6, d7, d8, d9⟩, ml, mp, mc, mo⟩ := hmm
    have e1 : (31 + 8 * a + Z 205 a.toNat).toNat = 31 + 8 * a.toNat + (Z 205 a.toNat).toNat := by omega
    have e2 : (1 + a).toNat = 1 + a.toNat := by omega
    have e3 : (11 + a).toNat = 11 + a.toNat := by omega
    have e4 : (21 + a).toNat = 21 + a.toNat := by omega
    have hmm : lm (61 + 5 * a.toNat) T Z a.toNat := hms a.toNat (by omega)
    by_cases hn : 0 ≤ b ∧ b < Z 190 0
    · have hbt : ((b.toNat : Nat) : Int) = b := by omega
      have b3 : 0 ≤ Z (61 + 5 * a.toNat) 3 ∧ Z (61 + 5 * a.toNat) 3 < 8 := by rw [s9]; split <;> omega
      have b4 : 0 ≤ Z (61 + 5 * a.toNat) 4 ∧ Z (61 + 5 * a.toNat) 4 < 8 := by rw [s10]; split <;> omega
      by_cases hc0 : c < 0
      · have hc0' : ¬ 0 ≤ c := by omega
        refine Op.same hI (-3) (by decide) ?_ ?_
        · simp (disch := first | assumption | decide +kernel | omega | (split <;> omega)) only [q_92_0, q_92_1, q_92_2, q_92_3, q_92_6, q_92_8, q_92_10, q_92_13, q_92_15, q_92_16, q_92_17, q_92_20, q_92_22, q_92_23, q_92_24, q_92_27, q_92_28, q_92_31, q_92_34, q_92_35, q_92_36, q_92_37, q_92_38, q_92_41, c_copyError, pm_some, Option.toList_some, Option.toList_none, List.cons_append, List.nil_append, pm_i0, pm_i1, Nat.reduceAdd, Nat.reduceMul, Int.toNat_natCast, Int.toNat_zero, a1, a7, hm, hn, hc0, hc0', not_true_eq_false, not_false_eq_true, and_self, true_and, and_true, ↓reduceIte, Int.reduceEq, Int.reduceLT, Int.reduceLE, Int.reduceNeg, Bool.false_eq_true]
        · simp (disch := first | assumption | decide +kernel | omega | (split <;> omega)) only [q_146_0, q_146_1, q_146_2, q_146_5, q_146_8, q_146_10, q_146_11, q_146_12, q_146_13, q_146_16, q_146_19, q_146_20, q_146_21, q_146_22, q_146_25, q_146_27, q_146_28, q_146_29, q_146_30, q_146_31, q_146_34, q_146_37, q_146_39, q_146_40, q_146_41, q_146_42, q_146_43, q_146_46, q_146_47, q_146_48, q_146_51, q_146_54, q_146_55, q_146_58, q_146_59, q_146_60, q_146_63, q_146_65, c_noMessage, c_noTower, pm_some, Option.toList_some, Option.toList_none, List.cons_append, List.nil_append, pm_i0, pm_i1, Nat.reduceAdd, Nat.reduceMul, Int.toNat_natCast, Int.toNat_zero, hm, hn, hc0, hc0', not_true_eq_false, not_false_eq_true, and_self, true_and, and_true, ↓reduceIte, Int.reduceEq, Int.reduceLT, Int.reduceLE, Int.reduceNeg, Bool.false_eq_true]
      · have hc0' : 0 ≤ c := by omega
        have r3 : pm_r (Z (61 + 5 * a.toNat) 3) := by omega
        have r4 : pm_r (Z (61 + 5 * a.toNat) 4) := by omega
        have hps := c_passesTower (61 + 5 * a.toNat) b L Z W k1 (by omega) r3 r4
        have how := c_R_isOnWay a b L Z W (by omega) hm.1 (by omega) s3 s5 (by omega) (by omega)
        rw [← s9, ← s10] at how
        by_cases hw : Z (61 + 5 * a.toNat) 3 ≤ b ∧ b ≤ Z (61 + 5 * a.toNat) 4
        · rw [if_pos hw] at hps how
          have hl := ml b.toNat (by omega) (by omega)
          obtain ⟨N, hN⟩ : ∃ N : Nat, Z (61 + 5 * a.toNat + 2) b.toNat = (N : Int) := ⟨(Z (61 + 5 * a.toNat + 2) b.toNat).toNat, by omega⟩
          obtain ⟨r, s, q1, q2, HC, HR⟩ := read_both (m := a.toNat) (t := b.toNat) (N := N) hbk htx (by omega) hmm a3 (by omega) (by omega) hN L N 0 (by omega)
          have ct : ((c.toNat : Nat) : Int) = c := by omega
          have hC0 := HC c c.toNat .null .null .null (by omega)
          rw [hbt, ct, show (((0 : Nat)) : Int) = 0 from rfl] at hC0
          rw [hi, hbt, show (((0 : Nat)) : Int) = 0 from rfl] at HR
          have A0 : FrW Z (pm_up Z 190 27 0) := ⟨fun d h1 h2 => pm_up_row h1, fun q hq => pm_up_ne (by omega)⟩
          obtain ⟨Z2, e2, f2, g2, g3⟩ := HR (pm_up Z 190 27 0) 0 .null A0 (pm_up_same _ _ _ _) (by omega)
          have f02 := FrW.trans A0 f2
          rw [Nat.zero_add] at g2
          have hcl := c_R_copyLong a b L (pm_up Z 190 27 0) W hm.1 (by omega) hn.1 (by omega)
          rw [pm_up_row (show 191 ≠ 190 by decide), show (31 + 8 * a + b).toNat = 31 + 8 * a.toNat + b.toNat by omega, ← hl.1, hN] at hcl
          have hwc : pm_D (145, 0, [.ref 190, .int (pm_J a), .int (pm_J b), .null, .null, .null], [], pm_hp L Z W) = some (none, pm_hp L Z2 W) := by
            simp (disch := first | assumption | decide +kernel | omega | (split <;> omega)) only [q_145_0, q_145_1, q_145_2, q_145_5, q_145_6, q_145_7, q_145_8, q_145_11, q_145_12, q_145_13, q_145_17, q_145_18, q_145_21, q_145_22, q_145_23, q_145_24, q_145_26, q_145_29, q_145_31, q_145_33, q_145_35, q_145_38, q_145_40, q_145_41, q_145_42, q_145_43, q_145_46, q_145_47, q_145_48, q_145_49, q_145_50, q_145_52, q_145_53, q_145_54, q_145_57, q_145_58, q_145_59, q_145_60, q_145_62, q_145_63, q_145_64, q_145_67, q_145_70, q_145_73, q_145_76, q_145_77, q_145_79, q_145_80, q_145_82, q_145_85, q_145_88, q_145_90, q_145_92, q_145_93, q_145_96, q_145_98, q_145_100, q_145_103, q_145_105, q_145_108, q_145_110, q_145_113, q_145_116, q_145_119, pm_some, Option.toList_some, Option.toList_none, List.cons_append, List.nil_append, pm_i0, pm_i1, Nat.reduceAdd, Nat.reduceMul, Int.toNat_natCast, Int.toNat_zero, hcl]
            exact e2
          have rr : pm_r (r : Int) := by omega
          have hI2 : Inv (T + 300) Z2 W := by
            refine Inv.up ?_
            refine ⟨lr_congr hI.1 (fun d _ _ => f02.1 _ (by omega) (by omega)) (f02.2 _ (by omega)) (f02.2 _ (by omega)) (f02.2 _ (by omega)) (f02.2 _ (by omega)) (f02.2 _ (by omega)) (f02.2 _ (by omega)) (f02.1 _ (by omega) (by omega)) (fun d _ _ => f02.1 _ (by omega) (by omega)) (fun d _ _ => f02.1 _ (by omega) (by omega)), tx_congr htx (by rw [f02.1 1 (by omega) (by omega)]) (f02.1 _ (by omega) (by omega)) (f02.2 _ (by omega)) (f02.1 _ (by omega) (by omega)), bk_congr hbk (by rw [f02.1 3 (by omega) (by omega)]) (fun d _ _ => f02.1 _ (by omega) (by omega)) (f02.2 _ (by omega)) (f02.1 _ (by omega) (by omega)) (f02.1 _ (by omega) (by omega)) (f02.1 _ (by omega) (by omega)) (f02.1 _ (by omega) (by omega)), by rw [f02.2 29 (by omega)]; exact hon⟩
          have hvr : pm_r (if c.toNat < r then s c.toNat else -6) := by
            have := q2 c.toNat
            split <;> omega
          refine ⟨if c.toNat < r then s c.toNat else -6, Z, W, Z2, W, hvr, ?_, ?_, hI2, rfl, f02.1 _ (by omega) (by omega)⟩
          · have b7 : b < 8 := by omega
            simp (disch := first | assumption | decide +kernel | omega | (split <;> omega)) only [q_92_0, q_92_1, q_92_2, q_92_3, q_92_6, q_92_8, q_92_10, q_92_13, q_92_15, q_92_16, q_92_17, q_92_20, q_92_22, q_92_23, q_92_24, q_92_27, q_92_28, q_92_31, q_92_34, q_92_35, q_92_36, q_92_37, q_92_38, q_92_41, q_8_0, q_8_1, q_8_2, q_8_5, q_8_8, q_8_10, q_8_11, q_8_12, q_8_14, q_8_15, q_8_18, q_8_19, q_8_20, q_8_22, q_8_23, q_8_27, q_8_29, q_8_32, q_8_33, q_8_34, q_8_36, q_8_39, q_8_41, q_8_43, q_8_45, q_8_48, q_8_50, q_8_51, q_8_52, q_8_54, q_8_57, q_8_58, q_8_59, q_8_60, q_8_62, q_8_63, q_8_64, q_8_67, q_8_68, q_8_69, q_8_71, q_8_72, q_8_73, q_8_76, q_8_79, q_8_81, q_8_83, q_8_84, q_8_87, q_8_88, q_8_91, q_8_92, q_8_95, q_8_97, q_8_98, q_8_101, q_8_103, q_8_105, q_8_107, q_8_110, q_8_111, q_8_113, q_8_115, q_8_118, q_8_119, q_8_121, q_8_123, q_8_124, q_8_125, q_8_126, q_8_128, q_8_131, q_8_134, q_8_136, q_8_139, q_8_141, q_8_144, q_8_145, q_8_148, q_8_151, q_8_154, q_8_156, c_copyError, pm_some, Option.toList_some, Option.toList_none, List.cons_append, List.nil_append, pm_i0, pm_i1, Nat.reduceAdd, Nat.reduceMul, Int.toNat_natCast, Int.toNat_zero, a1, a7, hm, hn, hc0, hc0', not_true_eq_false, not_false_eq_true, and_self, true_and, and_true, ↓reduceIte, Int.reduceEq, Int.reduceLT, Int.reduceLE, Int.reduceNeg, Bool.false_eq_true, hps, hN, hC0]
          · by_cases hcr : c < (r : Int)
            · rw [if_pos (by omega)]
              have g3' := g3 c.toNat
              rw [if_pos (by omega), Nat.sub_zero] at g3'
              have c400 : c < 400 := by omega
              simp (disch := first | assumption | decide +kernel | omega | (split <;> omega)) only [q_146_0, q_146_1, q_146_2, q_146_5, q_146_8, q_146_10, q_146_11, q_146_12, q_146_13, q_146_16, q_146_19, q_146_20, q_146_21, q_146_22, q_146_25, q_146_27, q_146_28, q_146_29, q_146_30, q_146_31, q_146_34, q_146_37, q_146_39, q_146_40, q_146_41, q_146_42, q_146_43, q_146_46, q_146_47, q_146_48, q_146_51, q_146_54, q_146_55, q_146_58, q_146_59, q_146_60, q_146_63, q_146_65, c_noMessage, c_noTower, pm_some, Option.toList_some, Option.toList_none, List.cons_append, List.nil_append, pm_i0, pm_i1, Nat.reduceAdd, Nat.reduceMul, Int.toNat_natCast, Int.toNat_zero, hm, hn, hc0, hc0', not_true_eq_false, not_false_eq_true, and_self, true_and, and_true, ↓reduceIte, Int.reduceEq, Int.reduceLT, Int.reduceLE, Int.reduceNeg, Bool.false_eq_true, how, hwc, g2, hcr, g3']
            · rw [if_neg (by omega)]
              simp (disch := first | assumption | decide +kernel | omega | (split <;> omega)) only [q_146_0, q_146_1, q_146_2, q_146_5, q_146_8, q_146_10, q_146_11, q_146_12, q_146_13, q_146_16, q_146_19, q_146_20, q_146_21, q_146_22, q_146_25, q_146_27, q_146_28, q_146_29, q_146_30, q_146_31, q_146_34, q_146_37, q_146_39, q_146_40, q_146_41, q_146_42, q_146_43, q_146_46, q_146_47, q_146_48, q_146_51, q_146_54, q_146_55, q_146_58, q_146_59, q_146_60, q_146_63, q_146_65, c_noMessage, c_noTower, pm_some, Option.toList_some, Option.toList_none, List.cons_append, List.nil_append, pm_i0, pm_i1, Nat.reduceAdd, Nat.reduceMul, Int.toNat_natCast, Int.toNat_zero, hm, hn, hc0, hc0', not_true_eq_false, not_false_eq_true, and_self, true_and, and_true, ↓reduceIte, Int.reduceEq, Int.reduceLT, Int.reduceLE, Int.reduceNeg, Bool.false_eq_true, how, hwc, g2, hcr]
        · rw [if_neg hw] at hps how
          refine Op.same hI (-6) (by decide) ?_ ?_
          · simp (disch := first | assumption | decide +kernel | omega | (split <;> omega)) only [q_92_0, q_92_1, q_92_2, q_92_3, q_92_6, q_92_8, q_92_10, q_92_13, q_92_15, q_92_16, q_92_17, q_92_20, q_92_22, q_92_23, q_92_24, q_92_27, q_92_28, q_92_31, q_92_34, q_92_35, q_92_36, q_92_37, q_92_38, q_92_41, q_8_0, q_8_1, q_8_2, q_8_5, q_8_8, q_8_10, q_8_11, q_8_12, q_8_14, q_8_15, q_8_18, q_8_19, q_8_20, q_8_22, q_8_23, q_8_27, q_8_29, q_8_32, q_8_33, q_8_34, q_8_36, q_8_39, q_8_41, q_8_43, q_8_45, q_8_48, q_8_50, q_8_51, q_8_52, q_8_54, q_8_57, q_8_58, q_8_59, q_8_60, q_8_62, q_8_63, q_8_64, q_8_67, q_8_68, q_8_69, q_8_71, q_8_72, q_8_73, q_8_76, q_8_79, q_8_81, q_8_83, q_8_84, q_8_87, q_8_88, q_8_91, q_8_92, q_8_95, q_8_97, q_8_98, q_8_101, q_8_103, q_8_105, q_8_107, q_8_110, q_8_111, q_8_113, q_8_115, q_8_118, q_8_119, q_8_121, q_8_123, q_8_124, q_8_125, q_8_126, q_8_128, q_8_131, q_8_134, q_8_136, q_8_139, q_8_141, q_8_144, q_8_145, q_8_148, q_8_151, q_8_154, q_8_156, c_copyError, pm_some, Option.toList_some, Option.toList_none, List.cons_append, List.nil_append, pm_i0, pm_i1, Nat.reduceAdd, Nat.reduceMul, Int.toNat_natCast, Int.toNat_zero, a1, a7, hm, hn, hc0, hc0', not_true_eq_false, not_false_eq_true, and_self, true_and, and_true, ↓reduceIte, Int.reduceEq, Int.reduceLT, Int.reduceLE, Int.reduceNeg, Bool.false_eq_true, hps]
          · simp (disch := first | assumption | decide +kernel | omega | (split <;> omega)) only [q_146_0, q_146_1, q_146_2, q_146_5, q_146_8, q_146_10, q_146_11, q_146_12, q_146_13, q_146_16, q_146_19, q_146_20, q_146_21, q_146_22, q_146_25, q_146_27, q_146_28, q_146_29, q_146_30, q_146_31, q_146_34, q_146_37, q_146_39, q_146_40, q_146_41, q_146_42, q_146_43, q_146_46, q_146_47, q_146_48, q_146_51, q_146_54, q_146_55, q_146_58, q_146_59, q_146_60, q_146_63, q_146_65, c_noMessage, c_noTower, pm_some, Option.toList_some, Option.toList_none, List.cons_append, List.nil_append, pm_i0, pm_i1, Nat.reduceAdd, Nat.reduceMul, Int.toNat_natCast, Int.toNat_zero, hm, hn, hc0, hc0', not_true_eq_false, not_false_eq_true, and_self, true_and, and_true, ↓reduceIte, Int.reduceEq, Int.reduceLT, Int.reduceLE, Int.reduceNeg, Bool.false_eq_true, how]
    · refine Op.same hI (-1) (by decide) ?_ ?_
      · simp (disch := first | assumption | decide +kernel | omega | (split <;> omega)) only [q_92_0, q_92_1, q_92_2, q_92_3, q_92_6, q_92_8, q_92_10, q_92_13, q_92_15, q_92_16, q_92_17, q_92_20, q_92_22, q_92_23, q_92_24, q_92_27, q_92_28, q_92_31, q_92_34, q_92_35, q_92_36, q_92_37, q_92_38, q_92_41, c_copyError, pm_some, Option.toList_some, Option.toList_none, List.cons_append, List.nil_append, pm_i0, pm_i1, Nat.reduceAdd, Nat.reduceMul, Int.toNat_natCast, Int.toNat_zero, a1, a7, hm, hn, not_true_eq_false, not_false_eq_true, and_self, true_and, and_true, ↓reduceIte, Int.reduceEq, Int.reduceLT, Int.reduceLE, Int.reduceNeg, Bool.false_eq_true]
      · simp (disch := first | assumption | decide +kernel | omega | (split <;> omega)) only [q_146_0, q_146_1, q_146_2, q_146_5, q_146_8, q_146_10, q_146_11, q_146_12, q_146_13, q_146_16, q_146_19, q_146_20, q_146_21, q_146_22, q_146_25, q_146_27, q_146_28, q_146_29, q_146_30, q_146_31, q_146_34, q_146_37, q_146_39, q_146_40, q_146_41, q_146_42, q_146_43, q_146_46, q_146_47, q_146_48, q_146_51, q_146_54, q_146_55, q_146_58, q_146_59, q_146_60, q_146_63, q_146_65, c_noMessage, c_noTower, pm_some, Option.toList_some, Option.toList_none, List.cons_append, List.nil_append, pm_i0, pm_i1, Nat.reduceAdd, Nat.reduceMul, Int.toNat_natCast, Int.toNat_zero, hm, hn, not_true_eq_false, not_false_eq_true, and_self, true_and, and_true, ↓reduceIte, Int.reduceEq, Int.reduceLT, Int.reduceLE, Int.reduceNeg, Bool.false_eq_true]
  · refine Op.same hI (-2) (by decide) ?_ ?_
    · simp (disch := first | assumption | decide +kernel | omega | (split <;> omega)) only [q_92_0, q_92_1, q_92_2, q_92_3, q_92_6, q_92_8, q_92_10, q_92_13, q_92_15, q_92_16, q_92_17, q_92_20, q_92_22, q_92_23, q_92_24, q_92_27, q_92_28, q_92_31, q_92_34, q_92_35, q_92_36, q_92_37, q_92_38, q_92_41, c_copyError, pm_some, Option.toList_some, Option.toList_none, List.cons_append, List.nil_append, pm_i0, pm_i1, Nat.reduceAdd, Nat.reduceMul, Int.toNat_natCast, Int.toNat_zero, a1, a7, hm, not_true_eq_false, not_false_eq_true, and_self, true_and, and_true, ↓reduceIte, Int.reduceEq, Int.reduceLT, Int.reduceLE, Int.reduceNeg, Bool.false_eq_true]
    · simp (disch := first | assumption | decide +kernel | omega | (split <;> omega)) only [q_146_0, q_146_1, q_146_2, q_146_5, q_146_8, q_146_10, q_146_11, q_146_12, q_146_13, q_146_16, q_146_19, q_146_20, q_146_21, q_146_22, q_146_25, q_146_27, q_146_28, q_146_29, q_146_30, q_146_31, q_146_34, q_146_37, q_146_39, q_146_40, q_146_41, q_146_42, q_146_43, q_146_46, q_146_47, q_146_48, q_146_51, q_146_54, q_146_55, q_146_58, q_146_59, q_146_60, q_146_63, q_146_65, c_noMessage, pm_some, Option.toList_some, Option.toList_none, List.cons_append, List.nil_append, pm_i0, pm_i1, Nat.reduceAdd, Nat.reduceMul, Int.toNat_natCast, Int.toNat_zero, hm, not_true_eq_false, not_false_eq_true, and_self, true_and, and_true, ↓reduceIte, Int.reduceEq, Int.reduceLT, Int.reduceLE, Int.reduceNeg, Bool.false_eq_true]
