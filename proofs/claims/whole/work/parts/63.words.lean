/-! words come and go -/
theorem bkC_of {Z : Nat → Nat → Int} {W : Nat → Nat} (h : bk Z W) : bkC Z W := by
  obtain ⟨⟨b0, b1, b1'⟩, b2, b3, b4, b5, b6, b7, b8⟩ := h
  refine ⟨⟨by omega, by omega⟩, b2, fun i hi => ?_⟩
  obtain ⟨w, hw, s1, s2, s3, s4⟩ := b6 i (by omega)
  obtain ⟨w1, w2, w3, w4, w5, w6, w7⟩ := b4 w hw
  refine ⟨by omega, by omega, fun k hk => ?_⟩
  rw [s1] at hk
  rw [s4 k hk]
  exact w7 k hk
theorem bkR_of {Z : Nat → Nat → Int} {W : Nat → Nat} (h : bk Z W) (ht : tx Z) : bkR Z := by
  obtain ⟨⟨b0, b1, b1'⟩, b2, b3, b4, -⟩ := h
  obtain ⟨t1, t2, t3, t4⟩ := ht
  exact ⟨⟨b1, b1'⟩, ⟨t2, t3⟩, b4, fun i hi => ⟨(t4 i hi).1, (t4 i hi).2.1⟩⟩
theorem tx_iff {c v : Int} (h1 : 1 ≤ v) (h2 : v ≤ 26) : tx_code c = v ↔ v = c - 96 := by
  unfold tx_code
  split
  · omega
  · split <;> omega
theorem tx_let {c : Int} : 0 < tx_code c ↔ 97 ≤ c ∧ c ≤ 122 := by
  unfold tx_code
  split
  · omega
  · split <;> omega
theorem st_iff {Z : Nat → Nat → Int} {W : Nat → Nat} {i w f e : Nat} (hs : bk_same Z W i w) (hw : bk_w Z w) (ht : tx Z) (hfe : f ≤ e) (he : (e : Int) ≤ Z 190 13) : standC Z (W i) f e ↔ standR Z w f e := by
  obtain ⟨s1, s2, s3, s4⟩ := hs
  obtain ⟨w1, w2, w3, w4, w5, w6, w7⟩ := hw
  obtain ⟨t1, t2, t3, t4⟩ := ht
  unfold standC standR
  rw [s1]
  constructor
  · rintro ⟨h1, h2⟩
    refine ⟨h1.symm, fun k hk => ?_⟩
    have := h2 k (by omega)
    rw [s4 k (by omega), (t4 (f + k) (by omega)).2.2] at this
    exact (tx_iff (w7 k (by omega)).1 (w7 k (by omega)).2).mp this
  · rintro ⟨h1, h2⟩
    refine ⟨h1.symm, fun k hk => ?_⟩
    have := h2 k (by omega)
    rw [s4 k (by omega), (t4 (f + k) (by omega)).2.2]
    exact (tx_iff (w7 k (by omega)).1 (w7 k (by omega)).2).mpr this
/-- both find the same word in the text -/
theorem find_text {Z : Nat → Nat → Int} {W : Nat → Nat} {f e : Nat} (hB : bk Z W) (ht : tx Z) (hfe : f ≤ e) (he : (e : Int) ≤ Z 190 13) : (fi (fun i => standC Z (W i) f e) (Z 3 1).toNat 0 = -1 ∧ fi (fun w => standR Z w f e) (Z 190 15).toNat 0 = -1 ∧ ∀ w : Nat, (w : Int) < Z 190 15 → ¬ standR Z w f e) ∨ (∃ i w : Nat, (i : Int) < Z 190 15 ∧ (w : Int) < Z 190 15 ∧ fi (fun i => standC Z (W i) f e) (Z 3 1).toNat 0 = (i : Int) ∧ fi (fun w => standR Z w f e) (Z 190 15).toNat 0 = (w : Int) ∧ bk_same Z W i w ∧ standR Z w f e) := by
  obtain ⟨⟨b0, b1, b1'⟩, b2, b3, b4, b5, b6, b7, b8⟩ := hB
  rw [b0]
  rcases fi_spec (fun w => standR Z w f e) (Z 190 15).toNat 0 with ⟨h1, h2⟩ | ⟨w, h1, h2, h3, h4⟩
  · have hn : ∀ w : Nat, (w : Int) < Z 190 15 → ¬ standR Z w f e := fun w hw => h2 w (by omega) (by omega)
    refine Or.inl ⟨?_, h1, hn⟩
    rcases fi_spec (fun i => standC Z (W i) f e) (Z 190 15).toNat 0 with ⟨g1, g2⟩ | ⟨i, g1, g2, g3, g4⟩
    · exact g1
    · obtain ⟨w, hw, hs⟩ := b6 i (by omega)
      exact absurd ((st_iff hs (b4 w hw) ht hfe he).mp g4) (hn w hw)
  · have hw : (w : Int) < Z 190 15 := by omega
    rcases fi_spec (fun i => standC Z (W i) f e) (Z 190 15).toNat 0 with ⟨g1, g2⟩ | ⟨i, g1, g2, g3, g4⟩
    · obtain ⟨i, hi, hs⟩ := b7 w hw
      exact absurd ((st_iff hs (b4 w hw) ht hfe he).mpr h4) (g2 i (by omega) (by omega))
    · have hi : (i : Int) < Z 190 15 := by omega
      obtain ⟨v, hv, hs⟩ := b6 i hi
      have hv4 := (st_iff hs (b4 v hv) ht hfe he).mp g4
      have hvw : v = w := by
        by_cases q : v = w
        · exact q
        · refine absurd ⟨?_, fun k hk => ?_⟩ (b5 v w hv hw q).2
          · rw [hv4.1, h4.1]
          · rw [hv4.1] at hk
            rw [hv4.2 k hk, h4.2 k hk]
      subst hvw
      exact Or.inr ⟨i, v, hi, hw, g3, h3, hs, h4⟩
/-- both find the same word by page and row -/
theorem find_place {Z : Nat → Nat → Int} {W : Nat → Nat} (p r : Int) (hB : bk Z W) : (fi (fun i => Z (W i) 2 = p ∧ Z (W i) 3 = r) (Z 3 1).toNat 0 = -1 ∧ fi (fun w => Z 202 w = p ∧ Z 203 w = r) (Z 190 15).toNat 0 = -1 ∧ ∀ w : Nat, (w : Int) < Z 190 15 → ¬ (Z 202 w = p ∧ Z 203 w = r)) ∨ (∃ i w : Nat, (i : Int) < Z 190 15 ∧ (w : Int) < Z 190 15 ∧ fi (fun i => Z (W i) 2 = p ∧ Z (W i) 3 = r) (Z 3 1).toNat 0 = (i : Int) ∧ fi (fun w => Z 202 w = p ∧ Z 203 w = r) (Z 190 15).toNat 0 = (w : Int) ∧ bk_same Z W i w) := by
  obtain ⟨⟨b0, b1, b1'⟩, b2, b3, b4, b5, b6, b7, b8⟩ := hB
  rw [b0]
  rcases fi_spec (fun w => Z 202 w = p ∧ Z 203 w = r) (Z 190 15).toNat 0 with ⟨h1, h2⟩ | ⟨w, h1, h2, h3, h4⟩
  · have hn : ∀ w : Nat, (w : Int) < Z 190 15 → ¬ (Z 202 w = p ∧ Z 203 w = r) := fun w hw => h2 w (by omega) (by omega)
    refine Or.inl ⟨?_, h1, hn⟩
    rcases fi_spec (fun i => Z (W i) 2 = p ∧ Z (W i) 3 = r) (Z 190 15).toNat 0 with ⟨g1, g2⟩ | ⟨i, g1, g2, g3, g4⟩
    · exact g1
    · obtain ⟨w, hw, s1, s2, s3, s4⟩ := b6 i (by omega)
      have g4' : Z (W i) 2 = p ∧ Z (W i) 3 = r := g4
      exact absurd ⟨by omega, by omega⟩ (hn w hw)
  · have hw : (w : Int) < Z 190 15 := by omega
    have h4' : Z 202 w = p ∧ Z 203 w = r := h4
    rcases fi_spec (fun i => Z (W i) 2 = p ∧ Z (W i) 3 = r) (Z 190 15).toNat 0 with ⟨g1, g2⟩ | ⟨i, g1, g2, g3, g4⟩
    · obtain ⟨i, hi, s1, s2, s3, s4⟩ := b7 w hw
      exact absurd (show Z (W i) 2 = p ∧ Z (W i) 3 = r from ⟨by omega, by omega⟩) (g2 i (by omega) (by omega))
    · have hi : (i : Int) < Z 190 15 := by omega
      have g4' : Z (W i) 2 = p ∧ Z (W i) 3 = r := g4
      obtain ⟨v, hv, s1, s2, s3, s4⟩ := b6 i hi
      have hvw : v = w := by
        by_cases q : v = w
        · exact q
        · exact absurd ⟨by omega, by omega⟩ (b5 v w hv hw q).1
      subst hvw
      exact Or.inr ⟨i, v, hi, hw, g3, h3, s1, s2, s3, s4⟩
theorem c_isLetter (i : Int) (L : Nat) (Z : Nat → Nat → Int) (W : Nat → Nat) (h0 : 0 ≤ i) (h1 : i < 60) (hr : pm_r (Z 2 i.toNat)) : pm_D (60, 0, [.ref 1, .int (pm_J i)], [], pm_hp L Z W) = some (some (.int (pm_J (if 0 < Z 2 i.toNat then 1 else 0))), pm_hp L Z W) := by
  by_cases c : 0 < Z 2 i.toNat
  · simp (disch := first | assumption | decide +kernel | omega | (split <;> omega)) only [q_60_0, q_60_1, q_60_4, q_60_5, q_60_6, q_60_9, q_60_10, q_60_13, q_60_14, pm_some, Option.toList_some, Option.toList_none, List.cons_append, List.nil_append, pm_i0, pm_i1, Nat.reduceAdd, Nat.reduceMul, Int.toNat_natCast, Int.toNat_zero, not_true_eq_false, not_false_eq_true, and_self, true_and, and_true, ↓reduceIte, Int.reduceEq, Int.reduceLT, Int.reduceLE, Int.reduceNeg, Bool.false_eq_true, c]
  · simp (disch := first | assumption | decide +kernel | omega | (split <;> omega)) only [q_60_0, q_60_1, q_60_4, q_60_5, q_60_6, q_60_9, q_60_10, q_60_13, q_60_14, pm_some, Option.toList_some, Option.toList_none, List.cons_append, List.nil_append, pm_i0, pm_i1, Nat.reduceAdd, Nat.reduceMul, Int.toNat_natCast, Int.toNat_zero, not_true_eq_false, not_false_eq_true, and_self, true_and, and_true, ↓reduceIte, Int.reduceEq, Int.reduceLT, Int.reduceLE, Int.reduceNeg, Bool.false_eq_true, c]
theorem c_R_isLetterAt (i : Int) (L : Nat) (Z : Nat → Nat → Int) (W : Nat → Nat) (h0 : 0 ≤ i) (hr : pm_r i) (h13 : Z 190 13 ≤ 60) (h130 : 0 ≤ Z 190 13) (hc : i < Z 190 13 → 0 ≤ Z 199 i.toNat ∧ Z 199 i.toNat < 65536) : pm_D (119, 0, [.ref 190, .int (pm_J i)], [], pm_hp L Z W) = some (some (.int (pm_J (if i < Z 190 13 ∧ 97 ≤ Z 199 i.toNat ∧ Z 199 i.toNat ≤ 122 then 1 else 0))), pm_hp L Z W) := by
  by_cases c : i < Z 190 13
  · obtain ⟨q1, q2⟩ := hc c
    by_cases c1 : Z 199 i.toNat < 97
    · have c1' : ¬ 97 ≤ Z 199 i.toNat := by omega
      simp (disch := first | assumption | decide +kernel | omega | (split <;> omega)) only [q_119_0, q_119_1, q_119_2, q_119_5, q_119_8, q_119_9, q_119_12, q_119_13, q_119_14, q_119_16, q_119_19, q_119_20, q_119_23, q_119_24, q_119_25, q_119_27, q_119_30, q_119_31, q_119_34, q_119_35, pm_some, Option.toList_some, Option.toList_none, List.cons_append, List.nil_append, pm_i0, pm_i1, Nat.reduceAdd, Nat.reduceMul, Int.toNat_natCast, Int.toNat_zero, not_true_eq_false, not_false_eq_true, and_self, true_and, and_true, ↓reduceIte, Int.reduceEq, Int.reduceLT, Int.reduceLE, Int.reduceNeg, Bool.false_eq_true, c, c1, c1', false_and]
    · have c1' : 97 ≤ Z 199 i.toNat := by omega
      by_cases c2 : 122 < Z 199 i.toNat
      · have c2' : ¬ Z 199 i.toNat ≤ 122 := by omega
        simp (disch := first | assumption | decide +kernel | omega | (split <;> omega)) only [q_119_0, q_119_1, q_119_2, q_119_5, q_119_8, q_119_9, q_119_12, q_119_13, q_119_14, q_119_16, q_119_19, q_119_20, q_119_23, q_119_24, q_119_25, q_119_27, q_119_30, q_119_31, q_119_34, q_119_35, pm_some, Option.toList_some, Option.toList_none, List.cons_append, List.nil_append, pm_i0, pm_i1, Nat.reduceAdd, Nat.reduceMul, Int.toNat_natCast, Int.toNat_zero, not_true_eq_false, not_false_eq_true, and_self, true_and, and_true, ↓reduceIte, Int.reduceEq, Int.reduceLT, Int.reduceLE, Int.reduceNeg, Bool.false_eq_true, c, c1, c1', c2, c2']
      · have c2' : Z 199 i.toNat ≤ 122 := by omega
        simp (disch := first | assumption | decide +kernel | omega | (split <;> omega)) only [q_119_0, q_119_1, q_119_2, q_119_5, q_119_8, q_119_9, q_119_12, q_119_13, q_119_14, q_119_16, q_119_19, q_119_20, q_119_23, q_119_24, q_119_25, q_119_27, q_119_30, q_119_31, q_119_34, q_119_35, pm_some, Option.toList_some, Option.toList_none, List.cons_append, List.nil_append, pm_i0, pm_i1, Nat.reduceAdd, Nat.reduceMul, Int.toNat_natCast, Int.toNat_zero, not_true_eq_false, not_false_eq_true, and_self, true_and, and_true, ↓reduceIte, Int.reduceEq, Int.reduceLT, Int.reduceLE, Int.reduceNeg, Bool.false_eq_true, c, c1, c1', c2, c2']
  · simp (disch := first | assumption | decide +kernel | omega | (split <;> omega)) only [q_119_0, q_119_1, q_119_2, q_119_5, q_119_8, q_119_9, q_119_12, q_119_13, q_119_14, q_119_16, q_119_19, q_119_20, q_119_23, q_119_24, q_119_25, q_119_27, q_119_30, q_119_31, q_119_34, q_119_35, pm_some, Option.toList_some, Option.toList_none, List.cons_append, List.nil_append, pm_i0, pm_i1, Nat.reduceAdd, Nat.reduceMul, Int.toNat_natCast, Int.toNat_zero, not_true_eq_false, not_false_eq_true, and_self, true_and, and_true, ↓reduceIte, Int.reduceEq, Int.reduceLT, Int.reduceLE, Int.reduceNeg, Bool.false_eq_true, c, false_and]
def wordC (Z : Nat → Nat → Int) : Prop := (1 ≤ Z 1 1 ∧ Z 1 1 ≤ 10) ∧ ∀ i : Nat, (i : Int) < Z 1 1 → 0 < Z 2 i
theorem l_isBookWord (L : Nat) (Z : Nat → Nat → Int) (W : Nat → Nat) (h60 : Z 1 1 ≤ 60) (h0 : 0 ≤ Z 1 1) (hr : ∀ k : Nat, (k : Int) < Z 1 1 → pm_r (Z 2 k)) : ∀ n k : Nat, (k : Int) + n = Z 1 1 → (∀ j : Nat, j < k → 0 < Z 2 j) → pm_D (62, 2, [.ref 1, .int (pm_J (k : Int))], [], pm_hp L Z W) = some (some (.int (pm_J (bi (wordC Z)))), pm_hp L Z W) := by
  intro n
  induction n with
  | zero =>
    intro k hk hq
    have hlt : ¬ (k : Int) < Z 1 1 := by omega
    rw [q_62_2]
    by_cases c : 1 ≤ Z 1 1 ∧ Z 1 1 ≤ 10
    · rw [bi_pos (show wordC Z from ⟨c, fun j hj => hq j (by omega)⟩)]
      simp (disch := first | assumption | decide +kernel | omega | (split <;> omega)) only [q_62_0, q_62_1, q_62_3, q_62_4, q_62_7, q_62_10, q_62_11, q_62_12, q_62_15, q_62_18, q_62_19, q_62_20, q_62_23, q_62_26, q_62_27, q_62_30, q_62_31, q_62_33, q_62_36, c_isWithin, pm_some, Option.toList_some, Option.toList_none, List.cons_append, List.nil_append, pm_i0, pm_i1, Nat.reduceAdd, Nat.reduceMul, Int.toNat_natCast, Int.toNat_zero, not_true_eq_false, not_false_eq_true, and_self, true_and, and_true, ↓reduceIte, Int.reduceEq, Int.reduceLT, Int.reduceLE, Int.reduceNeg, Bool.false_eq_true, hlt, c]
    · rw [bi_neg (fun q : wordC Z => c q.1)]
      simp (disch := first | assumption | decide +kernel | omega | (split <;> omega)) only [q_62_0, q_62_1, q_62_3, q_62_4, q_62_7, q_62_10, q_62_11, q_62_12, q_62_15, q_62_18, q_62_19, q_62_20, q_62_23, q_62_26, q_62_27, q_62_30, q_62_31, q_62_33, q_62_36, c_isWithin, pm_some, Option.toList_some, Option.toList_none, List.cons_append, List.nil_append, pm_i0, pm_i1, Nat.reduceAdd, Nat.reduceMul, Int.toNat_natCast, Int.toNat_zero, not_true_eq_false, not_false_eq_true, and_self, true_and, and_true, ↓reduceIte, Int.reduceEq, Int.reduceLT, Int.reduceLE, Int.reduceNeg, Bool.false_eq_true, hlt, c]
  | succ n ih =>
    intro k hk hq
    have hlt : (k : Int) < Z 1 1 := by omega
    have r1 := hr k hlt
    have hl := c_isLetter (k : Int) L Z W (by omega) (by omega) (by rw [Int.toNat_natCast]; exact r1)
    rw [Int.toNat_natCast] at hl
    by_cases c : 0 < Z 2 k
    · have h := ih (k + 1) (by omega) (fun j hj => by
        by_cases hjk : j = k
        · subst hjk; exact c
        · exact hq j (by omega))
      rw [show (((k + 1 : Nat)) : Int) = (k : Int) + 1 by omega] at h
      rw [if_pos c] at hl
      rw [q_62_2]
      simp (disch := first | assumption | decide +kernel | omega | (split <;> omega)) only [q_62_0, q_62_1, q_62_3, q_62_4, q_62_7, q_62_10, q_62_11, q_62_12, q_62_15, q_62_18, q_62_19, q_62_20, q_62_23, q_62_26, q_62_27, q_62_30, q_62_31, q_62_33, q_62_36, pm_some, Option.toList_some, Option.toList_none, List.cons_append, List.nil_append, pm_i0, pm_i1, Nat.reduceAdd, Nat.reduceMul, Int.toNat_natCast, Int.toNat_zero, not_true_eq_false, not_false_eq_true, and_self, true_and, and_true, ↓reduceIte, Int.reduceEq, Int.reduceLT, Int.reduceLE, Int.reduceNeg, Bool.false_eq_true, hlt, hl, h]
    · rw [if_neg c] at hl
      rw [bi_neg (fun q : wordC Z => c (q.2 k hlt)), q_62_2]
      simp (disch := first | assumption | decide +kernel | omega | (split <;> omega)) only [q_62_0, q_62_1, q_62_3, q_62_4, q_62_7, q_62_10, q_62_11, q_62_12, q_62_15, q_62_18, q_62_19, q_62_20, q_62_23, q_62_26, q_62_27, q_62_30, q_62_31, q_62_33, q_62_36, pm_some, Option.toList_some, Option.toList_none, List.cons_append, List.nil_append, pm_i0, pm_i1, Nat.reduceAdd, Nat.reduceMul, Int.toNat_natCast, Int.toNat_zero, not_true_eq_false, not_false_eq_true, and_self, true_and, and_true, ↓reduceIte, Int.reduceEq, Int.reduceLT, Int.reduceLE, Int.reduceNeg, Bool.false_eq_true, hlt, hl]
def wordR (Z : Nat → Nat → Int) : Prop := (1 ≤ Z 190 13 ∧ Z 190 13 ≤ 10) ∧ ∀ i : Nat, (i : Int) < Z 190 13 → 97 ≤ Z 199 i ∧ Z 199 i ≤ 122
theorem l_R_isWord (L : Nat) (Z : Nat → Nat → Int) (W : Nat → Nat) (B : bkR Z) : ∀ (n k : Nat) (x : Int), 0 ≤ x → x ≤ 1 → (k : Int) + n = Z 190 13 → (x = 1 ↔ ((1 ≤ Z 190 13 ∧ Z 190 13 ≤ 10) ∧ ∀ i : Nat, i < k → 97 ≤ Z 199 i ∧ Z 199 i ≤ 122)) → pm_D (121, 13, [.ref 190, .int (pm_J x), .int (pm_J (k : Int))], [], pm_hp L Z W) = some (some (.int (pm_J (bi (wordR Z)))), pm_hp L Z W) := by
  obtain ⟨-, ⟨b2, b3⟩, -, b5⟩ := B
  intro n
  induction n with
  | zero =>
    intro k x x0 x1 hk hx
    have hlt : ¬ (k : Int) < Z 190 13 := by omega
    have hbx : bi (wordR Z) = x := by
      by_cases c : x = 1
      · have := hx.mp c
        rw [bi_pos (show wordR Z from ⟨this.1, fun i hi => this.2 i (by omega)⟩)]
        exact c.symm
      · rw [bi_neg (fun q : wordR Z => c (hx.mpr ⟨q.1, fun i hi => q.2 i (by omega)⟩))]
        omega
    rw [hbx, q_121_13]
    simp (disch := first | assumption | decide +kernel | omega | (split <;> omega)) only [q_121_0, q_121_1, q_121_4, q_121_5, q_121_7, q_121_10, q_121_11, q_121_12, q_121_14, q_121_15, q_121_18, q_121_21, q_121_22, q_121_25, q_121_26, q_121_27, q_121_30, q_121_33, q_121_34, q_121_37, q_121_38, q_121_39, q_121_42, q_121_45, q_121_46, pm_some, Option.toList_some, Option.toList_none, List.cons_append, List.nil_append, pm_i0, pm_i1, Nat.reduceAdd, Nat.reduceMul, Int.toNat_natCast, Int.toNat_zero, not_true_eq_false, not_false_eq_true, and_self, true_and, and_true, ↓reduceIte, Int.reduceEq, Int.reduceLT, Int.reduceLE, Int.reduceNeg, Bool.false_eq_true, hlt]
  | succ n ih =>
    intro k x x0 x1 hk hx
    have hlt : (k : Int) < Z 190 13 := by omega
    have hl := c_R_isLetterAt (k : Int) L Z W (by omega) (by omega) b3 b2 (fun q => by rw [Int.toNat_natCast]; exact b5 k q)
    rw [Int.toNat_natCast] at hl
    rcases (show x = 0 ∨ x = 1 by omega) with rfl | rfl
    · have h := ih (k + 1) 0 (by omega) (by omega) (by omega) ⟨fun q => by omega, fun q => hx.mpr ⟨q.1, fun i hi => q.2 i (by omega)⟩⟩
      rw [show (((k + 1 : Nat)) : Int) = (k : Int) + 1 by omega] at h
      rw [q_121_13]
      simp (disch := first | assumption | decide +kernel | omega | (split <;> omega)) only [q_121_0, q_121_1, q_121_4, q_121_5, q_121_7, q_121_10, q_121_11, q_121_12, q_121_14, q_121_15, q_121_18, q_121_21, q_121_22, q_121_25, q_121_26, q_121_27, q_121_30, q_121_33, q_121_34, q_121_37, q_121_38, q_121_39, q_121_42, q_121_45, q_121_46, pm_some, Option.toList_some, Option.toList_none, List.cons_append, List.nil_append, pm_i0, pm_i1, Nat.reduceAdd, Nat.reduceMul, Int.toNat_natCast, Int.toNat_zero, not_true_eq_false, not_false_eq_true, and_self, true_and, and_true, ↓reduceIte, Int.reduceEq, Int.reduceLT, Int.reduceLE, Int.reduceNeg, Bool.false_eq_true, hlt, h]
    · have hx' := hx.mp rfl
      by_cases c : 97 ≤ Z 199 k ∧ Z 199 k ≤ 122
      · have h := ih (k + 1) 1 (by omega) (by omega) (by omega) ⟨fun _ => ⟨hx'.1, fun i hi => by
            by_cases hik : i = k
            · subst hik; exact c
            · exact hx'.2 i (by omega)⟩, fun _ => rfl⟩
        rw [show (((k + 1 : Nat)) : Int) = (k : Int) + 1 by omega] at h
        rw [if_pos ⟨hlt, c⟩] at hl
        rw [q_121_13]
        simp (disch := first | assumption | decide +kernel | omega | (split <;> omega)) only [q_121_0, q_121_1, q_121_4, q_121_5, q_121_7, q_121_10, q_121_11, q_121_12, q_121_14, q_121_15, q_121_18, q_121_21, q_121_22, q_121_25, q_121_26, q_121_27, q_121_30, q_121_33, q_121_34, q_121_37, q_121_38, q_121_39, q_121_42, q_121_45, q_121_46, pm_some, Option.toList_some, Option.toList_none, List.cons_append, List.nil_append, pm_i0, pm_i1, Nat.reduceAdd, Nat.reduceMul, Int.toNat_natCast, Int.toNat_zero, not_true_eq_false, not_false_eq_true, and_self, true_and, and_true, ↓reduceIte, Int.reduceEq, Int.reduceLT, Int.reduceLE, Int.reduceNeg, Bool.false_eq_true, hlt, hl, h]
      · have h := ih (k + 1) 0 (by omega) (by omega) (by omega) ⟨fun q => by omega, fun q => absurd (q.2 k (by omega)) c⟩
        rw [show (((k + 1 : Nat)) : Int) = (k : Int) + 1 by omega] at h
        rw [if_neg (fun q => c q.2)] at hl
        rw [q_121_13]
        simp (disch := first | assumption | decide +kernel | omega | (split <;> omega)) only [q_121_0, q_121_1, q_121_4, q_121_5, q_121_7, q_121_10, q_121_11, q_121_12, q_121_14, q_121_15, q_121_18, q_121_21, q_121_22, q_121_25, q_121_26, q_121_27, q_121_30, q_121_33, q_121_34, q_121_37, q_121_38, q_121_39, q_121_42, q_121_45, q_121_46, pm_some, Option.toList_some, Option.toList_none, List.cons_append, List.nil_append, pm_i0, pm_i1, Nat.reduceAdd, Nat.reduceMul, Int.toNat_natCast, Int.toNat_zero, not_true_eq_false, not_false_eq_true, and_self, true_and, and_true, ↓reduceIte, Int.reduceEq, Int.reduceLT, Int.reduceLE, Int.reduceNeg, Bool.false_eq_true, hlt, hl, h]
theorem c_R_isWord (L : Nat) (Z : Nat → Nat → Int) (W : Nat → Nat) (B : bkR Z) : pm_D (121, 0, [.ref 190, .null, .null], [], pm_hp L Z W) = some (some (.int (pm_J (bi (wordR Z)))), pm_hp L Z W) := by
  have b := B.2.1
  by_cases c : 1 ≤ Z 190 13 ∧ Z 190 13 ≤ 10
  · have h := l_R_isWord L Z W B (Z 190 13).toNat 0 1 (by omega) (by omega) (by omega) ⟨fun _ => ⟨c, fun i hi => by omega⟩, fun _ => rfl⟩
    rw [show (((0 : Nat)) : Int) = 0 from rfl] at h
    simp (disch := first | assumption | decide +kernel | omega | (split <;> omega)) only [q_121_0, q_121_1, q_121_4, q_121_5, q_121_7, q_121_10, q_121_11, q_121_12, q_121_14, q_121_15, q_121_18, q_121_21, q_121_22, q_121_25, q_121_26, q_121_27, q_121_30, q_121_33, q_121_34, q_121_37, q_121_38, q_121_39, q_121_42, q_121_45, q_121_46, c_in, pm_some, Option.toList_some, Option.toList_none, List.cons_append, List.nil_append, pm_i0, pm_i1, Nat.reduceAdd, Nat.reduceMul, Int.toNat_natCast, Int.toNat_zero, not_true_eq_false, not_false_eq_true, and_self, true_and, and_true, ↓reduceIte, Int.reduceEq, Int.reduceLT, Int.reduceLE, Int.reduceNeg, Bool.false_eq_true, c]
    exact h
  · have h := l_R_isWord L Z W B (Z 190 13).toNat 0 0 (by omega) (by omega) (by omega) ⟨fun q => by omega, fun q => absurd q.1 c⟩
    rw [show (((0 : Nat)) : Int) = 0 from rfl] at h
    simp (disch := first | assumption | decide +kernel | omega | (split <;> omega)) only [q_121_0, q_121_1, q_121_4, q_121_5, q_121_7, q_121_10, q_121_11, q_121_12, q_121_14, q_121_15, q_121_18, q_121_21, q_121_22, q_121_25, q_121_26, q_121_27, q_121_30, q_121_33, q_121_34, q_121_37, q_121_38, q_121_39, q_121_42, q_121_45, q_121_46, c_in, pm_some, Option.toList_some, Option.toList_none, List.cons_append, List.nil_append, pm_i0, pm_i1, Nat.reduceAdd, Nat.reduceMul, Int.toNat_natCast, Int.toNat_zero, not_true_eq_false, not_false_eq_true, and_self, true_and, and_true, ↓reduceIte, Int.reduceEq, Int.reduceLT, Int.reduceLE, Int.reduceNeg, Bool.false_eq_true, c]
    exact h
theorem word_iff {Z : Nat → Nat → Int} (ht : tx Z) : wordC Z ↔ wordR Z := by
  obtain ⟨t1, t2, t3, t4⟩ := ht
  unfold wordC wordR
  rw [t1]
  constructor
  · rintro ⟨h1, h2⟩
    refine ⟨h1, fun i hi => ?_⟩
    have := h2 i hi
    rw [(t4 i hi).2.2] at this
    exact tx_let.mp this
  · rintro ⟨h1, h2⟩
    refine ⟨h1, fun i hi => ?_⟩
    rw [(t4 i hi).2.2]
    exact tx_let.mpr (h2 i hi)
theorem c_become {w : Nat} (p r : Int) (L : Nat) (Z : Nat → Nat → Int) (W : Nat → Nat) (hw : 3 ≤ w) (k1 : pm_kd w = 7) (k2 : pm_kd (w + 1) = 11) (k3 : pm_ln (w + 1) = 10) (h0 : 0 ≤ Z 1 1) (h1 : Z 1 1 ≤ 10) : pm_D (72, 0, [.ref w, .ref 1, .int (pm_J p), .int (pm_J r)], [], pm_hp L Z W) = some (none, pm_hp L (pm_up (pm_up (pm_cpz (pm_up Z w 1 (Z 1 1)) 2 (w + 1) 0 0 (Z 1 1).toNat) w 2 p) w 3 r) W) := by
  have c : pm_cpz (pm_up Z w 1 (Z 1 1)) 2 (w + 1) 0 0 (Z 1 1).toNat w = pm_up Z w 1 (Z 1 1) w := pm_cpz_row (by omega)
  have h1' : ¬ (10 : Int) < Z 1 1 := by omega
  simp (disch := first | assumption | decide +kernel | omega | (split <;> omega)) only [q_72_0, q_72_1, q_72_2, q_72_5, q_72_7, q_72_10, q_72_13, q_72_14, q_72_17, q_72_18, q_72_19, q_72_22, q_72_23, q_72_24, q_72_27, q_72_30, q_72_31, q_72_32, q_72_35, q_72_36, q_72_37, q_72_40, pm_some, Option.toList_some, Option.toList_none, List.cons_append, List.nil_append, pm_i0, pm_i1, Nat.reduceAdd, Nat.reduceMul, Int.toNat_natCast, Int.toNat_zero, not_true_eq_false, not_false_eq_true, and_self, true_and, and_true, ↓reduceIte, Int.reduceEq, Int.reduceLT, Int.reduceLE, Int.reduceNeg, Bool.false_eq_true, h1', pm_up_same]
theorem c_take (p r : Int) (L : Nat) (Z : Nat → Nat → Int) (W : Nat → Nat) (B : bkC Z W) (h20 : Z 3 1 < 20) (h0 : 0 ≤ Z 1 1) (h1 : Z 1 1 ≤ 10) : pm_D (3, 0, [.ref 3, .ref 1, .int (pm_J p), .int (pm_J r)], [], pm_hp L Z W) = some (none, pm_hp L (pm_up (pm_up (pm_up (pm_cpz (pm_up Z (W (Z 3 1).toNat) 1 (Z 1 1)) 2 (W (Z 3 1).toNat + 1) 0 0 (Z 1 1).toNat) (W (Z 3 1).toNat) 2 p) (W (Z 3 1).toNat) 3 r) 3 1 (Z 3 1 + 1)) W) := by
  have b0 := B.1.1
  obtain ⟨j, hj, hW⟩ := B.2.1 (Z 3 1).toNat (by omega)
  obtain ⟨k1, k2, k3⟩ := kWord hj hW
  have hb := c_become p r L Z W (by omega) k1 k2 k3 h0 h1
  have hc : pm_up (pm_up (pm_cpz (pm_up Z (W (Z 3 1).toNat) 1 (Z 1 1)) 2 (W (Z 3 1).toNat + 1) 0 0 (Z 1 1).toNat) (W (Z 3 1).toNat) 2 p) (W (Z 3 1).toNat) 3 r 3 1 = Z 3 1 := by
    rw [pm_up_row (by omega), pm_up_row (by omega), pm_cpz_row (by omega), pm_up_row (by omega)]
  simp (disch := first | assumption | decide +kernel | omega | (split <;> omega)) only [q_3_0, q_3_1, q_3_4, q_3_6, q_3_9, q_3_10, q_3_13, q_3_14, q_3_17, q_3_18, q_3_19, q_3_20, q_3_21, q_3_24, q_3_25, q_3_26, q_3_29, q_3_30, q_3_31, q_3_34, pm_some, Option.toList_some, Option.toList_none, List.cons_append, List.nil_append, pm_i0, pm_i1, Nat.reduceAdd, Nat.reduceMul, Int.toNat_natCast, Int.toNat_zero, not_true_eq_false, not_false_eq_true, and_self, true_and, and_true, ↓reduceIte, Int.reduceEq, Int.reduceLT, Int.reduceLE, Int.reduceNeg, Bool.false_eq_true, h20, hb, hc]
theorem l_R_add (p r : Int) (L : Nat) (W : Nat → Nat) : ∀ (n k : Nat) (Z : Nat → Nat → Int), 0 ≤ Z 190 15 → Z 190 15 < 20 → Z 190 13 ≤ 10 → (∀ i : Nat, (i : Int) < Z 190 13 → 0 ≤ Z 199 i ∧ Z 199 i < 65536) → (k : Int) + n = Z 190 13 → ∃ Z', pm_D (123, 70, [.ref 190, .int (pm_J p), .int (pm_J r), .int (pm_J (k : Int))], [], pm_hp L Z W) = pm_D (123, 107, [.ref 190, .int (pm_J p), .int (pm_J r), .int (pm_J (Z 190 13))], [], pm_hp L Z' W) ∧ (∀ a, a ≠ 201 → Z' a = Z a) ∧ ∀ q : Nat, Z' 201 q = if 10 * (Z 190 15).toNat + k ≤ q ∧ (q : Int) < 10 * Z 190 15 + Z 190 13 then Z 199 (q - 10 * (Z 190 15).toNat) - 96 else Z 201 q := by
  intro n
  induction n with
  | zero =>
    intro k Z h0 h20 h10 hc hk
    have e : Z 190 13 = (k : Int) := by omega
    refine ⟨Z, ?_, fun _ _ => rfl, fun q => by rw [if_neg (by omega)]⟩
    rw [q_123_70, e]
    simp (disch := first | assumption | decide +kernel | omega | (split <;> omega)) only [q_123_0, q_123_1, q_123_3, q_123_5, q_123_8, q_123_11, q_123_12, q_123_14, q_123_16, q_123_19, q_123_22, q_123_23, q_123_26, q_123_29, q_123_31, q_123_32, q_123_33, q_123_34, q_123_35, q_123_38, q_123_41, q_123_44, q_123_45, q_123_46, q_123_47, q_123_50, q_123_53, q_123_55, q_123_56, q_123_57, q_123_60, q_123_62, q_123_65, q_123_67, q_123_68, q_123_69, q_123_71, q_123_72, q_123_75, q_123_78, q_123_79, q_123_82, q_123_84, q_123_85, q_123_88, q_123_89, q_123_90, q_123_91, q_123_92, q_123_95, q_123_96, q_123_97, q_123_99, q_123_100, q_123_101, q_123_104, q_123_108, q_123_111, q_123_112, q_123_115, q_123_116, q_123_119, q_123_120, q_123_121, q_123_124, q_123_125, q_123_128, q_123_129, q_123_130, q_123_131, q_123_134, q_123_135, q_123_138, q_123_139, q_123_140, q_123_141, q_123_142, q_123_145, q_123_146, q_123_147, q_123_150, q_123_151, q_123_154, pm_some, Option.toList_some, Option.toList_none, List.cons_append, List.nil_append, pm_i0, pm_i1, Nat.reduceAdd, Nat.reduceMul, Int.toNat_natCast, Int.toNat_zero, not_true_eq_false, not_false_eq_true, and_self, true_and, and_true, ↓reduceIte, Int.reduceEq, Int.reduceLT, Int.reduceLE, Int.reduceNeg, Bool.false_eq_true, e, Int.lt_irrefl]
  | succ n ih =>
    intro k Z h0 h20 h10 hc hk
    have hlt : (k : Int) < Z 190 13 := by omega
    have r0 := hc k hlt
    have e0 : (10 * Z 190 15 + (k : Int)).toNat = 10 * (Z 190 15).toNat + k := by omega
    have x1 : 0 ≤ 10 * Z 190 15 + (k : Int) := by omega
    have x2 : 10 * Z 190 15 + (k : Int) < 200 := by omega
    have q190 : pm_up Z 201 (10 * (Z 190 15).toNat + k) (Z 199 k - 96) 190 = Z 190 := pm_up_row (by omega)
    have q199 : pm_up Z 201 (10 * (Z 190 15).toNat + k) (Z 199 k - 96) 199 = Z 199 := pm_up_row (by omega)
    obtain ⟨Z', e, f, g⟩ := ih (k + 1) (pm_up Z 201 (10 * (Z 190 15).toNat + k) (Z 199 k - 96)) (by rw [q190]; exact h0) (by rw [q190]; exact h20) (by rw [q190]; exact h10) (by rw [q190, q199]; exact hc) (by rw [q190]; omega)
    rw [q190] at e g
    rw [q199] at g
    rw [show (((k + 1 : Nat)) : Int) = (k : Int) + 1 by omega] at e
    refine ⟨Z', ?_, fun a ha => by rw [f a ha, pm_up_row ha], fun q => ?_⟩
    · rw [q_123_70]
      simp (disch := first | assumption | decide +kernel | omega | (split <;> omega)) only [q_123_0, q_123_1, q_123_3, q_123_5, q_123_8, q_123_11, q_123_12, q_123_14, q_123_16, q_123_19, q_123_22, q_123_23, q_123_26, q_123_29, q_123_31, q_123_32, q_123_33, q_123_34, q_123_35, q_123_38, q_123_41, q_123_44, q_123_45, q_123_46, q_123_47, q_123_50, q_123_53, q_123_55, q_123_56, q_123_57, q_123_60, q_123_62, q_123_65, q_123_67, q_123_68, q_123_69, q_123_71, q_123_72, q_123_75, q_123_78, q_123_79, q_123_82, q_123_84, q_123_85, q_123_88, q_123_89, q_123_90, q_123_91, q_123_92, q_123_95, q_123_96, q_123_97, q_123_99, q_123_100, q_123_101, q_123_104, q_123_108, q_123_111, q_123_112, q_123_115, q_123_116, q_123_119, q_123_120, q_123_121, q_123_124, q_123_125, q_123_128, q_123_129, q_123_130, q_123_131, q_123_134, q_123_135, q_123_138, q_123_139, q_123_140, q_123_141, q_123_142, q_123_145, q_123_146, q_123_147, q_123_150, q_123_151, q_123_154, pm_some, Option.toList_some, Option.toList_none, List.cons_append, List.nil_append, pm_i0, pm_i1, Nat.reduceAdd, Nat.reduceMul, Int.toNat_natCast, Int.toNat_zero, not_true_eq_false, not_false_eq_true, and_self, true_and, and_true, ↓reduceIte, Int.reduceEq, Int.reduceLT, Int.reduceLE, Int.reduceNeg, Bool.false_eq_true, hlt, e0]
      exact e
    · rw [g q]
      by_cases c : q = 10 * (Z 190 15).toNat + k
      · subst c
        rw [if_neg (by omega), if_pos (by omega), pm_up_same, show 10 * (Z 190 15).toNat + k - 10 * (Z 190 15).toNat = k by omega]
      · rw [pm_up_ne (by omega)]
        by_cases c2 : 10 * (Z 190 15).toNat + k ≤ q ∧ (q : Int) < 10 * Z 190 15 + Z 190 13
        · rw [if_pos (by omega), if_pos c2]
        · rw [if_neg (by omega), if_neg c2]

theorem op_addWord : Op_addWord := by
  intro T L Z W hI hT0 hT p r hp hr
  obtain ⟨⟨⟨a1, a2, a3, a4, a5, a6, a7, a8, a9, a10, a11⟩, ⟨⟨w1, w2, w3, w4, w5, w6⟩, ⟨w7, w8, w9⟩, w10⟩, ⟨⟨f1, f2, f3⟩, f4⟩, hms, hun, hco, hsh, htk⟩, htx, hbk, hon⟩ := id hI
  have a8' : 0 ≤ Z 46 4 := by omega
  have a9' : Z 46 4 ≤ 10 := by omega
  have a2' : 0 ≤ Z 46 2 := by omega
  have a3' : Z 46 2 ≤ 8 := by omega
  have a2'' : 0 ≤ Z 190 0 := by omega
  have BC := bkC_of hbk
  have BR := bkR_of hbk htx
  obtain ⟨t1, t2, t3, t4⟩ := id htx
  obtain ⟨⟨b0, b1, b1'⟩, b2, b3, b4, b5, b6, b7, b8⟩ := id hbk
  have hrC : ∀ k : Nat, (k : Int) < Z 1 1 → pm_r (Z 2 k) := fun k hk => by
    have := t4 k (by omega)
    have := tx_code_r (Z 199 k) (by omega) (by omega)
    omega
  by_cases hm : 30 ≤ p ∧ p ≤ 95
  · by_cases hn : 30 ≤ r ∧ r ≤ 95
    · have hCw := l_isBookWord L Z W (by omega) (by omega) hrC (Z 1 1).toNat 0 (by omega) (fun j hj => by omega)
      rw [show (((0 : Nat)) : Int) = 0 from rfl] at hCw
      have hRw : ∀ Y, bkR Y → pm_D (121, 0, [.ref 190, .null, .null], [], pm_hp L Y W) = some (some (.int (pm_J (bi (wordR Y)))), pm_hp L Y W) := fun Y h => c_R_isWord L Y W h
      by_cases hw : wordR Z
      · have hwC := (word_iff htx).mpr hw
        rw [bi_pos hwC] at hCw
        have hlen : 1 ≤ Z 190 13 ∧ Z 190 13 ≤ 10 := hw.1
        have hEn : ((Z 190 13).toNat : Int) = Z 190 13 := by omega
        have hpo := c_placeOf (f := 0) (e := (Z 190 13).toNat) L Z W BC (by omega) (by omega) (fun k hk => hrC k (by omega))
        have hpa := c_placeAt p r L Z W hp hr BC
        rw [hEn, show (((0 : Nat)) : Int) = 0 from rfl] at hpo
        have hwb : ∀ Y, bkR Y → Y 190 13 = Z 190 13 → Y 190 15 = Z 190 15 → (∀ a, 199 ≤ a → a < 204 → Y a = Z a) → pm_D (120, 0, [.ref 190, .int (pm_J 0), .int (pm_J (Z 190 13)), .null, .null, .null], [], pm_hp L Y W) = some (some (.int (pm_J (fi (fun w => standR Z w 0 (Z 190 13).toNat) (Z 190 15).toNat 0))), pm_hp L Y W) := fun Y hY h13 h15 hrow => by
          have h := c_wordBetween (f := 0) (e := (Z 190 13).toNat) L Y W hY (by omega) (by omega)
          have es : (fun w => standR Y w 0 (Z 190 13).toNat) = (fun w => standR Z w 0 (Z 190 13).toNat) := by
            funext w
            unfold standR
            rw [hrow 199 (by omega) (by omega), hrow 200 (by omega) (by omega), hrow 201 (by omega) (by omega)]
          rw [hEn, es, h15] at h
          exact h
        have hwy : ∀ Y, bkR Y → Y 190 15 = Z 190 15 → (∀ a, 199 ≤ a → a < 204 → Y a = Z a) → pm_D (122, 0, [.ref 190, .int (pm_J p), .int (pm_J r), .null], [], pm_hp L Y W) = some (some (.int (pm_J (fi (fun w => Z 202 w = p ∧ Z 203 w = r) (Z 190 15).toNat 0))), pm_hp L Y W) := fun Y hY h15 hrow => by
          have h := c_wordBy p r L Y W hp hr hY
          rw [hrow 202 (by omega) (by omega), hrow 203 (by omega) (by omega), h15] at h
          exact h
        have hwZ := hRw Z BR
        rw [bi_pos hw] at hwZ
        have hwbZ := hwb Z BR rfl rfl (fun _ _ _ => rfl)
        have hwyZ := hwy Z BR rfl (fun _ _ _ => rfl)
        rcases find_text (f := 0) (e := (Z 190 13).toNat) hbk htx (by omega) (by omega) with ⟨fc, fr, fn⟩ | ⟨i, w, hi, hwn, fc, fr, fs, fst⟩
        · rcases find_place p r hbk with ⟨gc, gr, gn⟩ | ⟨i, w, hi, hwn, gc, gr, gs⟩
          · rw [fc] at hpo
            rw [gc] at hpa
            by_cases h20 : Z 190 15 < 20
            · have h20' : Z 3 1 < 20 := by omega
              have h20n : ¬ Z 190 15 = 20 := by omega
              have htk := c_take p r L Z W BC h20' (by omega) (by omega)
              rw [b0, t1] at htk
              obtain ⟨jn, hjn, hWn⟩ := b2 (Z 190 15).toNat (by omega)
              obtain ⟨Z1, hZ1⟩ : ∃ U, U = pm_up (pm_up (pm_up (pm_cpz (pm_up Z (W (Z 190 15).toNat) 1 (Z 190 13)) 2 (W (Z 190 15).toNat + 1) 0 0 (Z 190 13).toNat) (W (Z 190 15).toNat) 2 p) (W (Z 190 15).toNat) 3 r) 3 1 (Z 190 15 + 1) := ⟨_, rfl⟩
              rw [← hZ1] at htk
              have u1 : ∀ b, b ≠ 3 → b ≠ W (Z 190 15).toNat → b ≠ W (Z 190 15).toNat + 1 → Z1 b = Z b := fun b h1 h2 h3 => by rw [hZ1, pm_up_row h1, pm_up_row h2, pm_up_row h2, pm_cpz_row h3, pm_up_row h2]
              have u3 : Z1 3 1 = Z 190 15 + 1 := by rw [hZ1, pm_up_same]
              have uw1 : Z1 (W (Z 190 15).toNat) 1 = Z 190 13 := by rw [hZ1, pm_up_row (by omega), pm_up_ne (by omega), pm_up_ne (by omega), pm_cpz_row (by omega), pm_up_same]
              have uw2 : Z1 (W (Z 190 15).toNat) 2 = p := by rw [hZ1, pm_up_row (by omega), pm_up_ne (by omega), pm_up_same]
              have uw3 : Z1 (W (Z 190 15).toNat) 3 = r := by rw [hZ1, pm_up_row (by omega), pm_up_same]
              have ul : ∀ k : Nat, (k : Int) < Z 190 13 → Z1 (W (Z 190 15).toNat + 1) k = Z 2 k := fun k hk => by rw [hZ1, pm_up_row (by omega), pm_up_row (by omega), pm_up_row (by omega), pm_cpz_at (by omega), pm_up_row (by omega)]
              clear hZ1
              have v190 := u1 190 (by omega) (by omega) (by omega)
              have vrow : ∀ a, 199 ≤ a → a < 204 → Z1 a = Z a := fun a h1 h2 => u1 a (by omega) (by omega) (by omega)
              have BR1 : bkR Z1 := by
                obtain ⟨q1, q2, q3, q4⟩ := BR
                refine ⟨by rw [v190]; exact q1, by rw [v190]; exact q2, fun w hw => ?_, by rw [v190, vrow 199 (by omega) (by omega)]; exact q4⟩
                rw [v190] at hw
                have := q3 w hw
                unfold bk_w at this ⊢
                rw [vrow 200 (by omega) (by omega), vrow 201 (by omega) (by omega), vrow 202 (by omega) (by omega), vrow 203 (by omega) (by omega)]
                exact this
              obtain ⟨Z2, e2, f2, g2⟩ := l_R_add p r L W (Z 190 13).toNat 0 Z1 (by rw [v190]; omega) (by rw [v190]; omega) (by rw [v190]; omega) (by rw [v190, vrow 199 (by omega) (by omega)]; exact BR.2.2.2) (by rw [v190]; omega)
              rw [v190] at e2 g2
              rw [vrow 199 (by omega) (by omega), vrow 201 (by omega) (by omega)] at g2
              rw [show (((0 : Nat)) : Int) = 0 from rfl] at e2
              have w190 : Z2 190 = Z 190 := by rw [f2 190 (by omega)]; exact v190
              have z15 : Z2 190 15 = Z 190 15 := by rw [w190]
              have z13 : Z2 190 13 = Z 190 13 := by rw [w190]
              refine ⟨Z 190 15 + 1, Z1, W, pm_up (pm_up (pm_up (pm_up Z2 200 (Z 190 15).toNat (Z 190 13)) 202 (Z 190 15).toNat p) 203 (Z 190 15).toNat r) 190 15 (Z 190 15 + 1), W, by omega, ?_, ?_, Inv.up ?_, u1 _ (by omega) (by omega) (by omega), ?_⟩
              · simp (disch := first | assumption | decide +kernel | omega | (split <;> omega)) only [q_83_0, q_83_1, q_83_4, q_83_7, q_83_8, q_83_11, q_83_14, q_83_15, q_83_18, q_83_21, q_83_24, q_83_26, q_83_27, q_83_28, q_83_31, q_83_32, q_83_35, q_83_36, q_83_37, q_83_40, q_83_43, q_83_46, q_83_47, q_83_50, q_83_51, q_83_54, q_83_55, q_83_56, q_83_59, q_83_60, q_83_63, q_83_65, q_83_66, q_83_67, q_83_70, q_83_73, q_83_75, q_83_78, q_83_80, q_83_81, q_83_82, q_83_85, q_83_86, q_83_89, q_83_90, q_83_91, q_83_94, q_83_95, q_83_98, q_83_101, q_62_0, q_62_1, q_62_3, q_62_4, q_62_7, q_62_10, q_62_11, q_62_12, q_62_15, q_62_18, q_62_19, q_62_20, q_62_23, q_62_26, q_62_27, q_62_30, q_62_31, q_62_33, q_62_36, c_isBookNumber, pm_some, Option.toList_some, Option.toList_none, List.cons_append, List.nil_append, pm_i0, pm_i1, Nat.reduceAdd, Nat.reduceMul, Int.toNat_natCast, Int.toNat_zero, not_true_eq_false, not_false_eq_true, and_self, true_and, and_true, ↓reduceIte, Int.reduceEq, Int.reduceLT, Int.reduceLE, Int.reduceNeg, Bool.false_eq_true, hm, hn, hCw, t1, hpo, hpa, b0, h20, htk, u3]
              · have hwY := hRw Z1 BR1
                have hwR1 : wordR Z1 := by
                  unfold wordR
                  rw [v190, vrow 199 (by omega) (by omega)]
                  exact hw
                rw [bi_pos hwR1] at hwY
                have hwbY := hwb Z1 BR1 (by rw [v190]) (by rw [v190]) vrow
                have hwyY := hwy Z1 BR1 (by rw [v190]) vrow
                rw [fr] at hwbY
                rw [gr] at hwyY
                have y13 : Z1 190 13 = Z 190 13 := by rw [v190]
                have y15 : Z1 190 15 = Z 190 15 := by rw [v190]
                have h107 : pm_D (123, 107, [.ref 190, .int (pm_J p), .int (pm_J r), .int (pm_J (Z 190 13))], [], pm_hp L Z2 W) = some (some (.int (pm_J (Z 190 15 + 1))), pm_hp L (pm_up (pm_up (pm_up (pm_up Z2 200 (Z 190 15).toNat (Z 190 13)) 202 (Z 190 15).toNat p) 203 (Z 190 15).toNat r) 190 15 (Z 190 15 + 1)) W) := by
                  simp (disch := first | assumption | decide +kernel | omega | (split <;> omega)) only [q_123_0, q_123_1, q_123_3, q_123_5, q_123_8, q_123_11, q_123_12, q_123_14, q_123_16, q_123_19, q_123_22, q_123_23, q_123_26, q_123_29, q_123_31, q_123_32, q_123_33, q_123_34, q_123_35, q_123_38, q_123_41, q_123_44, q_123_45, q_123_46, q_123_47, q_123_50, q_123_53, q_123_55, q_123_56, q_123_57, q_123_60, q_123_62, q_123_65, q_123_67, q_123_68, q_123_69, q_123_71, q_123_72, q_123_75, q_123_78, q_123_79, q_123_82, q_123_84, q_123_85, q_123_88, q_123_89, q_123_90, q_123_91, q_123_92, q_123_95, q_123_96, q_123_97, q_123_99, q_123_100, q_123_101, q_123_104, q_123_107, q_123_108, q_123_111, q_123_112, q_123_115, q_123_116, q_123_119, q_123_120, q_123_121, q_123_124, q_123_125, q_123_128, q_123_129, q_123_130, q_123_131, q_123_134, q_123_135, q_123_138, q_123_139, q_123_140, q_123_141, q_123_142, q_123_145, q_123_146, q_123_147, q_123_150, q_123_151, q_123_154, pm_some, Option.toList_some, Option.toList_none, List.cons_append, List.nil_append, pm_i0, pm_i1, Nat.reduceAdd, Nat.reduceMul, Int.toNat_natCast, Int.toNat_zero, not_true_eq_false, not_false_eq_true, and_self, true_and, and_true, ↓reduceIte, Int.reduceEq, Int.reduceLT, Int.reduceLE, Int.reduceNeg, Bool.false_eq_true, pm_up_row, z15, z13, pm_up_same]
                simp (disch := first | assumption | decide +kernel | omega | (split <;> omega)) only [q_123_0, q_123_1, q_123_3, q_123_5, q_123_8, q_123_11, q_123_12, q_123_14, q_123_16, q_123_19, q_123_22, q_123_23, q_123_26, q_123_29, q_123_31, q_123_32, q_123_33, q_123_34, q_123_35, q_123_38, q_123_41, q_123_44, q_123_45, q_123_46, q_123_47, q_123_50, q_123_53, q_123_55, q_123_56, q_123_57, q_123_60, q_123_62, q_123_65, q_123_67, q_123_68, q_123_69, q_123_71, q_123_72, q_123_75, q_123_78, q_123_79, q_123_82, q_123_84, q_123_85, q_123_88, q_123_89, q_123_90, q_123_91, q_123_92, q_123_95, q_123_96, q_123_97, q_123_99, q_123_100, q_123_101, q_123_104, q_123_108, q_123_111, q_123_112, q_123_115, q_123_116, q_123_119, q_123_120, q_123_121, q_123_124, q_123_125, q_123_128, q_123_129, q_123_130, q_123_131, q_123_134, q_123_135, q_123_138, q_123_139, q_123_140, q_123_141, q_123_142, q_123_145, q_123_146, q_123_147, q_123_150, q_123_151, q_123_154, c_in, pm_some, Option.toList_some, Option.toList_none, List.cons_append, List.nil_append, pm_i0, pm_i1, Nat.reduceAdd, Nat.reduceMul, Int.toNat_natCast, Int.toNat_zero, not_true_eq_false, not_false_eq_true, and_self, true_and, and_true, ↓reduceIte, Int.reduceEq, Int.reduceLT, Int.reduceLE, Int.reduceNeg, Bool.false_eq_true, hm, hn, hwY, y13, y15, hwbY, hwyY, h20n]
                rw [e2]
                exact h107
              · have hC : ∀ b, ¬ (5 ≤ b ∧ b < 45) → (b ≠ 3 ∧ b ≠ 190 ∧ b ≠ 200 ∧ b ≠ 201 ∧ b ≠ 202 ∧ b ≠ 203) → pm_up (pm_up (pm_up (pm_up Z2 200 (Z 190 15).toNat (Z 190 13)) 202 (Z 190 15).toNat p) 203 (Z 190 15).toNat r) 190 15 (Z 190 15 + 1) b = Z b := fun b h1 h2 => by
                  rw [pm_up_row (by omega), pm_up_row (by omega), pm_up_row (by omega), pm_up_row (by omega), f2 b (by omega), u1 b (by omega) (by omega) (by omega)]
                have hS : ∀ q, q ≠ 15 → pm_up (pm_up (pm_up (pm_up Z2 200 (Z 190 15).toNat (Z 190 13)) 202 (Z 190 15).toNat p) 203 (Z 190 15).toNat r) 190 15 (Z 190 15 + 1) 190 q = Z 190 q := fun q hq => by
                  rw [pm_up_ne (by omega), pm_up_row (by omega), pm_up_row (by omega), pm_up_row (by omega), w190]
                have hS15 : pm_up (pm_up (pm_up (pm_up Z2 200 (Z 190 15).toNat (Z 190 13)) 202 (Z 190 15).toNat p) 203 (Z 190 15).toNat r) 190 15 (Z 190 15 + 1) 190 15 = Z 190 15 + 1 := pm_up_same _ _ _ _
                have hX : ∀ b, b = 3 ∨ (5 ≤ b ∧ b < 45) → pm_up (pm_up (pm_up (pm_up Z2 200 (Z 190 15).toNat (Z 190 13)) 202 (Z 190 15).toNat p) 203 (Z 190 15).toNat r) 190 15 (Z 190 15 + 1) b = Z1 b := fun b h => by
                  rw [pm_up_row (by omega), pm_up_row (by omega), pm_up_row (by omega), pm_up_row (by omega), f2 b (by omega)]
                have h200 : ∀ q, pm_up (pm_up (pm_up (pm_up Z2 200 (Z 190 15).toNat (Z 190 13)) 202 (Z 190 15).toNat p) 203 (Z 190 15).toNat r) 190 15 (Z 190 15 + 1) 200 q = if q = (Z 190 15).toNat then Z 190 13 else Z 200 q := fun q => by
                  rw [pm_up_row (by omega), pm_up_row (by omega), pm_up_row (by omega)]
                  by_cases c : q = (Z 190 15).toNat
                  · subst c; rw [if_pos rfl, pm_up_same]
                  · rw [if_neg c, pm_up_ne (by omega), f2 200 (by omega), u1 200 (by omega) (by omega) (by omega)]
                have h202 : ∀ q, pm_up (pm_up (pm_up (pm_up Z2 200 (Z 190 15).toNat (Z 190 13)) 202 (Z 190 15).toNat p) 203 (Z 190 15).toNat r) 190 15 (Z 190 15 + 1) 202 q = if q = (Z 190 15).toNat then p else Z 202 q := fun q => by
                  rw [pm_up_row (by omega), pm_up_row (by omega)]
                  by_cases c : q = (Z 190 15).toNat
                  · subst c; rw [if_pos rfl, pm_up_same]
                  · rw [if_neg c, pm_up_ne (by omega), pm_up_row (by omega), f2 202 (by omega), u1 202 (by omega) (by omega) (by omega)]
                have h203 : ∀ q, pm_up (pm_up (pm_up (pm_up Z2 200 (Z 190 15).toNat (Z 190 13)) 202 (Z 190 15).toNat p) 203 (Z 190 15).toNat r) 190 15 (Z 190 15 + 1) 203 q = if q = (Z 190 15).toNat then r else Z 203 q := fun q => by
                  rw [pm_up_row (by omega)]
                  by_cases c : q = (Z 190 15).toNat
                  · subst c; rw [if_pos rfl, pm_up_same]
                  · rw [if_neg c, pm_up_ne (by omega), pm_up_row (by omega), pm_up_row (by omega), f2 203 (by omega), u1 203 (by omega) (by omega) (by omega)]
                have h201 : ∀ q : Nat, pm_up (pm_up (pm_up (pm_up Z2 200 (Z 190 15).toNat (Z 190 13)) 202 (Z 190 15).toNat p) 203 (Z 190 15).toNat r) 190 15 (Z 190 15 + 1) 201 q = if 10 * (Z 190 15).toNat + 0 ≤ q ∧ (q : Int) < 10 * Z 190 15 + Z 190 13 then Z 199 (q - 10 * (Z 190 15).toNat) - 96 else Z 201 q := fun q => by
                  rw [pm_up_row (by omega), pm_up_row (by omega), pm_up_row (by omega), pm_up_row (by omega), g2 q]
                generalize pm_up (pm_up (pm_up (pm_up Z2 200 (Z 190 15).toNat (Z 190 13)) 202 (Z 190 15).toNat p) 203 (Z 190 15).toNat r) 190 15 (Z 190 15 + 1) = Y at hC hS hS15 hX h200 h201 h202 h203 ⊢
                obtain ⟨N, hN⟩ : ∃ N : Nat, Z 190 15 = (N : Int) := ⟨(Z 190 15).toNat, by omega⟩
                have hNn : (Z 190 15).toNat = N := by omega
                rw [hNn] at h200 h201 h202 h203 uw1 uw2 uw3 ul hWn u1
                have o200 : ∀ q, q ≠ N → Y 200 q = Z 200 q := fun q hq => by rw [h200, if_neg hq]
                have o202 : ∀ q, q ≠ N → Y 202 q = Z 202 q := fun q hq => by rw [h202, if_neg hq]
                have o203 : ∀ q, q ≠ N → Y 203 q = Z 203 q := fun q hq => by rw [h203, if_neg hq]
                have o201 : ∀ w k : Nat, w < N → k < 10 → Y 201 (10 * w + k) = Z 201 (10 * w + k) := fun w k h1 h2 => by rw [h201, if_neg (by omega)]
                have n200 : Y 200 N = Z 190 13 := by rw [h200, if_pos rfl]
                have n202 : Y 202 N = p := by rw [h202, if_pos rfl]
                have n203 : Y 203 N = r := by rw [h203, if_pos rfl]
                have n201 : ∀ k : Nat, (k : Int) < Z 190 13 → Y 201 (10 * N + k) = Z 199 k - 96 := fun k hk => by rw [h201, if_pos (by omega), show 10 * N + k - 10 * N = k by omega]
                have rowW : ∀ i, i < N → Y (W i) = Z (W i) ∧ Y (W i + 1) = Z (W i + 1) := fun i hi => by
                  obtain ⟨j, hj, hW⟩ := b2 i (by omega)
                  have hne : W i ≠ W N := fun q => absurd (b3 i N (by omega) (by omega) q) (by omega)
                  rw [hX _ (by omega), hX _ (by omega), u1 _ (by omega) (by omega) (by omega), u1 _ (by omega) (by omega) (by omega)]
                  exact ⟨rfl, rfl⟩
                have oldw : ∀ w : Nat, w < N → bk_w Z w := fun w hw => b4 w (by omega)
                have same_old : ∀ i w : Nat, i < N → w < N → (bk_same Y W i w ↔ bk_same Z W i w) := fun i w h1 h2 => by
                  obtain ⟨q1, q2, -⟩ := oldw w h2
                  unfold bk_same
                  rw [(rowW i h1).1, (rowW i h1).2, o200 w (by omega), o202 w (by omega), o203 w (by omega)]
                  constructor
                  · rintro ⟨s1, s2, s3, s4⟩
                    exact ⟨s1, s2, s3, fun k hk => by rw [s4 k hk, o201 w k h2 (by omega)]⟩
                  · rintro ⟨s1, s2, s3, s4⟩
                    exact ⟨s1, s2, s3, fun k hk => by rw [s4 k hk, o201 w k h2 (by omega)]⟩
                have WN1 : Y (W N) = Z1 (W N) := hX _ (by omega)
                have WN2 : Y (W N + 1) = Z1 (W N + 1) := hX _ (by omega)
                have same_new : bk_same Y W N N := by
                  refine ⟨by rw [WN1, uw1, n200], by rw [WN1, uw2, n202], by rw [WN1, uw3, n203], fun k hk => ?_⟩
                  rw [n200] at hk
                  rw [WN2, ul k hk, n201 k hk, (t4 k hk).2.2]
                  have := hw.2 k hk
                  unfold tx_code
                  rw [if_pos this]
                have not_new : ∀ w : Nat, w < N → ¬ (p = Z 202 w ∧ r = Z 203 w) := fun w hw q => gn w (by omega) ⟨q.1.symm, q.2.symm⟩
                refine ⟨lr_congr hI.1 (fun b h1 h2 => hC b (by omega) (by omega)) (hS 0 (by omega)) (hS 1 (by omega)) (hS 2 (by omega)) (hS 5 (by omega)) (hS 9 (by omega)) (hS 22 (by omega)) (hC _ (by omega) (by omega)) (fun b h1 h2 => hC _ (by omega) (by omega)) (fun b h1 h2 => hC _ (by omega) (by omega)), tx_congr htx (by rw [hC 1 (by omega) (by omega)]) (hC _ (by omega) (by omega)) (hS 13 (by omega)) (hC _ (by omega) (by omega)), ⟨⟨?_, ?_, ?_⟩, b2, b3, ?_, ?_, ?_, ?_, ?_⟩, by rw [hS 29 (by omega)]; exact hon⟩
                · rw [hX 3 (by omega), u3, hS15]
                · rw [hS15]; omega
                · rw [hS15]; omega
                · intro w hw
                  rw [hS15] at hw
                  by_cases hwN : w = N
                  · subst hwN
                    refine ⟨by rw [n200]; exact hlen.1, by rw [n200]; exact hlen.2, by rw [n202]; exact hm.1, by rw [n202]; exact hm.2, by rw [n203]; exact hn.1, by rw [n203]; exact hn.2, fun k hk => ?_⟩
                    rw [n200] at hk
                    rw [n201 k hk]
                    have := (‹wordR Z›).2 k hk
                    omega
                  · obtain ⟨q1, q2, q3, q4, q5, q6, q7⟩ := oldw w (by omega)
                    unfold bk_w
                    rw [o200 w hwN, o202 w hwN, o203 w hwN]
                    exact ⟨q1, q2, q3, q4, q5, q6, fun k hk => by rw [o201 w k (by omega) (by omega)]; exact q7 k hk⟩
                · have base : ∀ w : Nat, w < N → bk_ne Y w N := fun w hw => by
                    obtain ⟨q1, q2, -⟩ := oldw w hw
                    refine ⟨fun q => ?_, fun q => ?_⟩
                    · rw [o202 w (by omega), o203 w (by omega), n202, n203] at q
                      exact gn w (by omega) q
                    · rw [o200 w (by omega), n200] at q
                      refine fn w (by omega) ⟨by omega, fun k hk => ?_⟩
                      have := q.2 k (by omega)
                      rw [o201 w k hw (by omega), n201 k (by omega)] at this
                      rw [Nat.zero_add]
                      exact this
                  intro w v hw hv hne
                  rw [hS15] at hw hv
                  by_cases hwN : w = N
                  · subst hwN
                    have hb := base v (by omega)
                    refine ⟨fun q => hb.1 ⟨q.1.symm, q.2.symm⟩, fun q => hb.2 ⟨q.1.symm, fun k hk => (q.2 k (by omega)).symm⟩⟩
                  · by_cases hvN : v = N
                    · subst hvN
                      exact base w (by omega)
                    · have hb := b5 w v (by omega) (by omega) hne
                      obtain ⟨q1, q2, -⟩ := oldw w (by omega)
                      unfold bk_ne
                      rw [o200 w hwN, o202 w hwN, o203 w hwN, o200 v hvN, o202 v hvN, o203 v hvN]
                      refine ⟨hb.1, fun q => hb.2 ⟨q.1, fun k hk => ?_⟩⟩
                      have := q.2 k hk
                      rw [o201 w k (by omega) (by omega), o201 v k (by omega) (by omega)] at this
                      exact this
                · intro i hi
                  rw [hS15] at hi
                  by_cases hiN : i = N
                  · subst hiN
                    exact ⟨i, by rw [hS15]; omega, same_new⟩
                  · obtain ⟨w, hw, hs⟩ := b6 i (by omega)
                    exact ⟨w, by rw [hS15]; omega, (same_old i w (by omega) (by omega)).mpr hs⟩
                · intro w hw
                  rw [hS15] at hw
                  by_cases hwN : w = N
                  · subst hwN
                    exact ⟨w, by rw [hS15]; omega, same_new⟩
                  · obtain ⟨i, hi, hs⟩ := b7 w (by omega)
                    exact ⟨i, by rw [hS15]; omega, (same_old i w (by omega) (by omega)).mpr hs⟩
                · intro i j w hi hj hw hsi hsj
                  rw [hS15] at hi hj hw
                  have key : ∀ i w : Nat, i < N → w = N → bk_same Y W i w → False := fun i w h1 h2 hs => by
                    subst h2
                    obtain ⟨v, hv, hsv⟩ := b6 i (by omega)
                    obtain ⟨x1, x2, x3, x4⟩ := hs
                    obtain ⟨y1, y2, y3, y4⟩ := hsv
                    rw [(rowW i h1).1, n202] at x2
                    rw [(rowW i h1).1, n203] at x3
                    exact gn v (by omega) ⟨by omega, by omega⟩
                  have key2 : ∀ w : Nat, w < N → bk_same Y W N w → False := fun w h1 hs => by
                    obtain ⟨x1, x2, x3, x4⟩ := hs
                    rw [WN1, uw2, o202 w (by omega)] at x2
                    rw [WN1, uw3, o203 w (by omega)] at x3
                    exact gn w (by omega) ⟨x2.symm, x3.symm⟩
                  by_cases hiN : i = N
                  · by_cases hjN : j = N
                    · omega
                    · by_cases hwN : w = N
                      · exact absurd hsj (fun q => key j w (by omega) hwN q)
                      · rw [hiN] at hsi
                        exact absurd hsi (fun q => key2 w (by omega) q)
                  · by_cases hwN : w = N
                    · exact absurd hsi (fun q => key i w (by omega) hwN q)
                    · by_cases hjN : j = N
                      · rw [hjN] at hsj
                        exact absurd hsj (fun q => key2 w (by omega) q)
                      · exact b8 i j w (by omega) (by omega) (by omega) ((same_old i w (by omega) (by omega)).mp hsi) ((same_old j w (by omega) (by omega)).mp hsj)
              · rw [pm_up_row (by omega), pm_up_row (by omega), pm_up_row (by omega), pm_up_row (by omega), f2 _ (by omega), u1 _ (by omega) (by omega) (by omega)]
            · have h20e : Z 190 15 = 20 := by omega
              rw [fr] at hwbZ
              rw [gr] at hwyZ
              refine Op.same hI (-5) (by decide) ?_ ?_
              · simp (disch := first | assumption | decide +kernel | omega | (split <;> omega)) only [q_83_0, q_83_1, q_83_4, q_83_7, q_83_8, q_83_11, q_83_14, q_83_15, q_83_18, q_83_21, q_83_24, q_83_26, q_83_27, q_83_28, q_83_31, q_83_32, q_83_35, q_83_36, q_83_37, q_83_40, q_83_43, q_83_46, q_83_47, q_83_50, q_83_51, q_83_54, q_83_55, q_83_56, q_83_59, q_83_60, q_83_63, q_83_65, q_83_66, q_83_67, q_83_70, q_83_73, q_83_75, q_83_78, q_83_80, q_83_81, q_83_82, q_83_85, q_83_86, q_83_89, q_83_90, q_83_91, q_83_94, q_83_95, q_83_98, q_83_101, q_62_0, q_62_1, q_62_3, q_62_4, q_62_7, q_62_10, q_62_11, q_62_12, q_62_15, q_62_18, q_62_19, q_62_20, q_62_23, q_62_26, q_62_27, q_62_30, q_62_31, q_62_33, q_62_36, c_isBookNumber, pm_some, Option.toList_some, Option.toList_none, List.cons_append, List.nil_append, pm_i0, pm_i1, Nat.reduceAdd, Nat.reduceMul, Int.toNat_natCast, Int.toNat_zero, not_true_eq_false, not_false_eq_true, and_self, true_and, and_true, ↓reduceIte, Int.reduceEq, Int.reduceLT, Int.reduceLE, Int.reduceNeg, Bool.false_eq_true, hm, hn, hCw, t1, hpo, hpa, b0, h20]
              · simp (disch := first | assumption | decide +kernel | omega | (split <;> omega)) only [q_123_0, q_123_1, q_123_3, q_123_5, q_123_8, q_123_11, q_123_12, q_123_14, q_123_16, q_123_19, q_123_22, q_123_23, q_123_26, q_123_29, q_123_31, q_123_32, q_123_33, q_123_34, q_123_35, q_123_38, q_123_41, q_123_44, q_123_45, q_123_46, q_123_47, q_123_50, q_123_53, q_123_55, q_123_56, q_123_57, q_123_60, q_123_62, q_123_65, q_123_67, q_123_68, q_123_69, q_123_71, q_123_72, q_123_75, q_123_78, q_123_79, q_123_82, q_123_84, q_123_85, q_123_88, q_123_89, q_123_90, q_123_91, q_123_92, q_123_95, q_123_96, q_123_97, q_123_99, q_123_100, q_123_101, q_123_104, q_123_107, q_123_108, q_123_111, q_123_112, q_123_115, q_123_116, q_123_119, q_123_120, q_123_121, q_123_124, q_123_125, q_123_128, q_123_129, q_123_130, q_123_131, q_123_134, q_123_135, q_123_138, q_123_139, q_123_140, q_123_141, q_123_142, q_123_145, q_123_146, q_123_147, q_123_150, q_123_151, q_123_154, c_in, pm_some, Option.toList_some, Option.toList_none, List.cons_append, List.nil_append, pm_i0, pm_i1, Nat.reduceAdd, Nat.reduceMul, Int.toNat_natCast, Int.toNat_zero, not_true_eq_false, not_false_eq_true, and_self, true_and, and_true, ↓reduceIte, Int.reduceEq, Int.reduceLT, Int.reduceLE, Int.reduceNeg, Bool.false_eq_true, hm, hn, hwZ, hwbZ, hwyZ, h20e]
          · have hi0 : ¬ (i : Int) = -1 := by omega
            have hw0 : ¬ (w : Int) < 0 := by omega
            have hir : pm_r (i : Int) := by omega
            have hwr : pm_r (w : Int) := by omega
            rw [fc] at hpo
            rw [gc] at hpa
            rw [fr] at hwbZ
            rw [gr] at hwyZ
            refine Op.same hI (-4) (by decide) ?_ ?_
            · simp (disch := first | assumption | decide +kernel | omega | (split <;> omega)) only [q_83_0, q_83_1, q_83_4, q_83_7, q_83_8, q_83_11, q_83_14, q_83_15, q_83_18, q_83_21, q_83_24, q_83_26, q_83_27, q_83_28, q_83_31, q_83_32, q_83_35, q_83_36, q_83_37, q_83_40, q_83_43, q_83_46, q_83_47, q_83_50, q_83_51, q_83_54, q_83_55, q_83_56, q_83_59, q_83_60, q_83_63, q_83_65, q_83_66, q_83_67, q_83_70, q_83_73, q_83_75, q_83_78, q_83_80, q_83_81, q_83_82, q_83_85, q_83_86, q_83_89, q_83_90, q_83_91, q_83_94, q_83_95, q_83_98, q_83_101, q_62_0, q_62_1, q_62_3, q_62_4, q_62_7, q_62_10, q_62_11, q_62_12, q_62_15, q_62_18, q_62_19, q_62_20, q_62_23, q_62_26, q_62_27, q_62_30, q_62_31, q_62_33, q_62_36, c_isBookNumber, pm_some, Option.toList_some, Option.toList_none, List.cons_append, List.nil_append, pm_i0, pm_i1, Nat.reduceAdd, Nat.reduceMul, Int.toNat_natCast, Int.toNat_zero, not_true_eq_false, not_false_eq_true, and_self, true_and, and_true, ↓reduceIte, Int.reduceEq, Int.reduceLT, Int.reduceLE, Int.reduceNeg, Bool.false_eq_true, hm, hn, hCw, t1, hpo, hpa, hi0]
            · simp (disch := first | assumption | decide +kernel | omega | (split <;> omega)) only [q_123_0, q_123_1, q_123_3, q_123_5, q_123_8, q_123_11, q_123_12, q_123_14, q_123_16, q_123_19, q_123_22, q_123_23, q_123_26, q_123_29, q_123_31, q_123_32, q_123_33, q_123_34, q_123_35, q_123_38, q_123_41, q_123_44, q_123_45, q_123_46, q_123_47, q_123_50, q_123_53, q_123_55, q_123_56, q_123_57, q_123_60, q_123_62, q_123_65, q_123_67, q_123_68, q_123_69, q_123_71, q_123_72, q_123_75, q_123_78, q_123_79, q_123_82, q_123_84, q_123_85, q_123_88, q_123_89, q_123_90, q_123_91, q_123_92, q_123_95, q_123_96, q_123_97, q_123_99, q_123_100, q_123_101, q_123_104, q_123_107, q_123_108, q_123_111, q_123_112, q_123_115, q_123_116, q_123_119, q_123_120, q_123_121, q_123_124, q_123_125, q_123_128, q_123_129, q_123_130, q_123_131, q_123_134, q_123_135, q_123_138, q_123_139, q_123_140, q_123_141, q_123_142, q_123_145, q_123_146, q_123_147, q_123_150, q_123_151, q_123_154, c_in, pm_some, Option.toList_some, Option.toList_none, List.cons_append, List.nil_append, pm_i0, pm_i1, Nat.reduceAdd, Nat.reduceMul, Int.toNat_natCast, Int.toNat_zero, not_true_eq_false, not_false_eq_true, and_self, true_and, and_true, ↓reduceIte, Int.reduceEq, Int.reduceLT, Int.reduceLE, Int.reduceNeg, Bool.false_eq_true, hm, hn, hwZ, hwbZ, hwyZ, hw0]
        · have hi0 : ¬ (i : Int) = -1 := by omega
          have hw0 : ¬ (w : Int) < 0 := by omega
          have hir : pm_r (i : Int) := by omega
          have hwr : pm_r (w : Int) := by omega
          rw [fc] at hpo
          rw [fr] at hwbZ
          refine Op.same hI (-4) (by decide) ?_ ?_
          · simp (disch := first | assumption | decide +kernel | omega | (split <;> omega)) only [q_83_0, q_83_1, q_83_4, q_83_7, q_83_8, q_83_11, q_83_14, q_83_15, q_83_18, q_83_21, q_83_24, q_83_26, q_83_27, q_83_28, q_83_31, q_83_32, q_83_35, q_83_36, q_83_37, q_83_40, q_83_43, q_83_46, q_83_47, q_83_50, q_83_51, q_83_54, q_83_55, q_83_56, q_83_59, q_83_60, q_83_63, q_83_65, q_83_66, q_83_67, q_83_70, q_83_73, q_83_75, q_83_78, q_83_80, q_83_81, q_83_82, q_83_85, q_83_86, q_83_89, q_83_90, q_83_91, q_83_94, q_83_95, q_83_98, q_83_101, q_62_0, q_62_1, q_62_3, q_62_4, q_62_7, q_62_10, q_62_11, q_62_12, q_62_15, q_62_18, q_62_19, q_62_20, q_62_23, q_62_26, q_62_27, q_62_30, q_62_31, q_62_33, q_62_36, c_isBookNumber, pm_some, Option.toList_some, Option.toList_none, List.cons_append, List.nil_append, pm_i0, pm_i1, Nat.reduceAdd, Nat.reduceMul, Int.toNat_natCast, Int.toNat_zero, not_true_eq_false, not_false_eq_true, and_self, true_and, and_true, ↓reduceIte, Int.reduceEq, Int.reduceLT, Int.reduceLE, Int.reduceNeg, Bool.false_eq_true, hm, hn, hCw, t1, hpo, hi0]
          · simp (disch := first | assumption | decide +kernel | omega | (split <;> omega)) only [q_123_0, q_123_1, q_123_3, q_123_5, q_123_8, q_123_11, q_123_12, q_123_14, q_123_16, q_123_19, q_123_22, q_123_23, q_123_26, q_123_29, q_123_31, q_123_32, q_123_33, q_123_34, q_123_35, q_123_38, q_123_41, q_123_44, q_123_45, q_123_46, q_123_47, q_123_50, q_123_53, q_123_55, q_123_56, q_123_57, q_123_60, q_123_62, q_123_65, q_123_67, q_123_68, q_123_69, q_123_71, q_123_72, q_123_75, q_123_78, q_123_79, q_123_82, q_123_84, q_123_85, q_123_88, q_123_89, q_123_90, q_123_91, q_123_92, q_123_95, q_123_96, q_123_97, q_123_99, q_123_100, q_123_101, q_123_104, q_123_107, q_123_108, q_123_111, q_123_112, q_123_115, q_123_116, q_123_119, q_123_120, q_123_121, q_123_124, q_123_125, q_123_128, q_123_129, q_123_130, q_123_131, q_123_134, q_123_135, q_123_138, q_123_139, q_123_140, q_123_141, q_123_142, q_123_145, q_123_146, q_123_147, q_123_150, q_123_151, q_123_154, c_in, pm_some, Option.toList_some, Option.toList_none, List.cons_append, List.nil_append, pm_i0, pm_i1, Nat.reduceAdd, Nat.reduceMul, Int.toNat_natCast, Int.toNat_zero, not_true_eq_false, not_false_eq_true, and_self, true_and, and_true, ↓reduceIte, Int.reduceEq, Int.reduceLT, Int.reduceLE, Int.reduceNeg, Bool.false_eq_true, hm, hn, hwZ, hwbZ, hw0]
      · have hwC : ¬ wordC Z := fun q => hw ((word_iff htx).mp q)
        rw [bi_neg hwC] at hCw
        have hwZ := hRw Z BR
        rw [bi_neg hw] at hwZ
        refine Op.same hI (-3) (by decide) ?_ ?_
        · simp (disch := first | assumption | decide +kernel | omega | (split <;> omega)) only [q_83_0, q_83_1, q_83_4, q_83_7, q_83_8, q_83_11, q_83_14, q_83_15, q_83_18, q_83_21, q_83_24, q_83_26, q_83_27, q_83_28, q_83_31, q_83_32, q_83_35, q_83_36, q_83_37, q_83_40, q_83_43, q_83_46, q_83_47, q_83_50, q_83_51, q_83_54, q_83_55, q_83_56, q_83_59, q_83_60, q_83_63, q_83_65, q_83_66, q_83_67, q_83_70, q_83_73, q_83_75, q_83_78, q_83_80, q_83_81, q_83_82, q_83_85, q_83_86, q_83_89, q_83_90, q_83_91, q_83_94, q_83_95, q_83_98, q_83_101, q_62_0, q_62_1, q_62_3, q_62_4, q_62_7, q_62_10, q_62_11, q_62_12, q_62_15, q_62_18, q_62_19, q_62_20, q_62_23, q_62_26, q_62_27, q_62_30, q_62_31, q_62_33, q_62_36, c_isBookNumber, pm_some, Option.toList_some, Option.toList_none, List.cons_append, List.nil_append, pm_i0, pm_i1, Nat.reduceAdd, Nat.reduceMul, Int.toNat_natCast, Int.toNat_zero, not_true_eq_false, not_false_eq_true, and_self, true_and, and_true, ↓reduceIte, Int.reduceEq, Int.reduceLT, Int.reduceLE, Int.reduceNeg, Bool.false_eq_true, hm, hn, hCw]
        · simp (disch := first | assumption | decide +kernel | omega | (split <;> omega)) only [q_123_0, q_123_1, q_123_3, q_123_5, q_123_8, q_123_11, q_123_12, q_123_14, q_123_16, q_123_19, q_123_22, q_123_23, q_123_26, q_123_29, q_123_31, q_123_32, q_123_33, q_123_34, q_123_35, q_123_38, q_123_41, q_123_44, q_123_45, q_123_46, q_123_47, q_123_50, q_123_53, q_123_55, q_123_56, q_123_57, q_123_60, q_123_62, q_123_65, q_123_67, q_123_68, q_123_69, q_123_71, q_123_72, q_123_75, q_123_78, q_123_79, q_123_82, q_123_84, q_123_85, q_123_88, q_123_89, q_123_90, q_123_91, q_123_92, q_123_95, q_123_96, q_123_97, q_123_99, q_123_100, q_123_101, q_123_104, q_123_107, q_123_108, q_123_111, q_123_112, q_123_115, q_123_116, q_123_119, q_123_120, q_123_121, q_123_124, q_123_125, q_123_128, q_123_129, q_123_130, q_123_131, q_123_134, q_123_135, q_123_138, q_123_139, q_123_140, q_123_141, q_123_142, q_123_145, q_123_146, q_123_147, q_123_150, q_123_151, q_123_154, c_in, pm_some, Option.toList_some, Option.toList_none, List.cons_append, List.nil_append, pm_i0, pm_i1, Nat.reduceAdd, Nat.reduceMul, Int.toNat_natCast, Int.toNat_zero, not_true_eq_false, not_false_eq_true, and_self, true_and, and_true, ↓reduceIte, Int.reduceEq, Int.reduceLT, Int.reduceLE, Int.reduceNeg, Bool.false_eq_true, hm, hn, hwZ]
    · refine Op.same hI (-3) (by decide) ?_ ?_
      · simp (disch := first | assumption | decide +kernel | omega | (split <;> omega)) only [q_83_0, q_83_1, q_83_4, q_83_7, q_83_8, q_83_11, q_83_14, q_83_15, q_83_18, q_83_21, q_83_24, q_83_26, q_83_27, q_83_28, q_83_31, q_83_32, q_83_35, q_83_36, q_83_37, q_83_40, q_83_43, q_83_46, q_83_47, q_83_50, q_83_51, q_83_54, q_83_55, q_83_56, q_83_59, q_83_60, q_83_63, q_83_65, q_83_66, q_83_67, q_83_70, q_83_73, q_83_75, q_83_78, q_83_80, q_83_81, q_83_82, q_83_85, q_83_86, q_83_89, q_83_90, q_83_91, q_83_94, q_83_95, q_83_98, q_83_101, c_isBookNumber, pm_some, Option.toList_some, Option.toList_none, List.cons_append, List.nil_append, pm_i0, pm_i1, Nat.reduceAdd, Nat.reduceMul, Int.toNat_natCast, Int.toNat_zero, not_true_eq_false, not_false_eq_true, and_self, true_and, and_true, ↓reduceIte, Int.reduceEq, Int.reduceLT, Int.reduceLE, Int.reduceNeg, Bool.false_eq_true, hm, hn]
      · simp (disch := first | assumption | decide +kernel | omega | (split <;> omega)) only [q_123_0, q_123_1, q_123_3, q_123_5, q_123_8, q_123_11, q_123_12, q_123_14, q_123_16, q_123_19, q_123_22, q_123_23, q_123_26, q_123_29, q_123_31, q_123_32, q_123_33, q_123_34, q_123_35, q_123_38, q_123_41, q_123_44, q_123_45, q_123_46, q_123_47, q_123_50, q_123_53, q_123_55, q_123_56, q_123_57, q_123_60, q_123_62, q_123_65, q_123_67, q_123_68, q_123_69, q_123_70, q_123_71, q_123_72, q_123_75, q_123_78, q_123_79, q_123_82, q_123_84, q_123_85, q_123_88, q_123_89, q_123_90, q_123_91, q_123_92, q_123_95, q_123_96, q_123_97, q_123_99, q_123_100, q_123_101, q_123_104, q_123_107, q_123_108, q_123_111, q_123_112, q_123_115, q_123_116, q_123_119, q_123_120, q_123_121, q_123_124, q_123_125, q_123_128, q_123_129, q_123_130, q_123_131, q_123_134, q_123_135, q_123_138, q_123_139, q_123_140, q_123_141, q_123_142, q_123_145, q_123_146, q_123_147, q_123_150, q_123_151, q_123_154, c_in, pm_some, Option.toList_some, Option.toList_none, List.cons_append, List.nil_append, pm_i0, pm_i1, Nat.reduceAdd, Nat.reduceMul, Int.toNat_natCast, Int.toNat_zero, not_true_eq_false, not_false_eq_true, and_self, true_and, and_true, ↓reduceIte, Int.reduceEq, Int.reduceLT, Int.reduceLE, Int.reduceNeg, Bool.false_eq_true, hm, hn]
  · refine Op.same hI (-3) (by decide) ?_ ?_
    · simp (disch := first | assumption | decide +kernel | omega | (split <;> omega)) only [q_83_0, q_83_1, q_83_4, q_83_7, q_83_8, q_83_11, q_83_14, q_83_15, q_83_18, q_83_21, q_83_24, q_83_26, q_83_27, q_83_28, q_83_31, q_83_32, q_83_35, q_83_36, q_83_37, q_83_40, q_83_43, q_83_46, q_83_47, q_83_50, q_83_51, q_83_54, q_83_55, q_83_56, q_83_59, q_83_60, q_83_63, q_83_65, q_83_66, q_83_67, q_83_70, q_83_73, q_83_75, q_83_78, q_83_80, q_83_81, q_83_82, q_83_85, q_83_86, q_83_89, q_83_90, q_83_91, q_83_94, q_83_95, q_83_98, q_83_101, c_isBookNumber, pm_some, Option.toList_some, Option.toList_none, List.cons_append, List.nil_append, pm_i0, pm_i1, Nat.reduceAdd, Nat.reduceMul, Int.toNat_natCast, Int.toNat_zero, not_true_eq_false, not_false_eq_true, and_self, true_and, and_true, ↓reduceIte, Int.reduceEq, Int.reduceLT, Int.reduceLE, Int.reduceNeg, Bool.false_eq_true, hm]
    · simp (disch := first | assumption | decide +kernel | omega | (split <;> omega)) only [q_123_0, q_123_1, q_123_3, q_123_5, q_123_8, q_123_11, q_123_12, q_123_14, q_123_16, q_123_19, q_123_22, q_123_23, q_123_26, q_123_29, q_123_31, q_123_32, q_123_33, q_123_34, q_123_35, q_123_38, q_123_41, q_123_44, q_123_45, q_123_46, q_123_47, q_123_50, q_123_53, q_123_55, q_123_56, q_123_57, q_123_60, q_123_62, q_123_65, q_123_67, q_123_68, q_123_69, q_123_70, q_123_71, q_123_72, q_123_75, q_123_78, q_123_79, q_123_82, q_123_84, q_123_85, q_123_88, q_123_89, q_123_90, q_123_91, q_123_92, q_123_95, q_123_96, q_123_97, q_123_99, q_123_100, q_123_101, q_123_104, q_123_107, q_123_108, q_123_111, q_123_112, q_123_115, q_123_116, q_123_119, q_123_120, q_123_121, q_123_124, q_123_125, q_123_128, q_123_129, q_123_130, q_123_131, q_123_134, q_123_135, q_123_138, q_123_139, q_123_140, q_123_141, q_123_142, q_123_145, q_123_146, q_123_147, q_123_150, q_123_151, q_123_154, c_in, pm_some, Option.toList_some, Option.toList_none, List.cons_append, List.nil_append, pm_i0, pm_i1, Nat.reduceAdd, Nat.reduceMul, Int.toNat_natCast, Int.toNat_zero, not_true_eq_false, not_false_eq_true, and_self, true_and, and_true, ↓reduceIte, Int.reduceEq, Int.reduceLT, Int.reduceLE, Int.reduceNeg, Bool.false_eq_true, hm]
