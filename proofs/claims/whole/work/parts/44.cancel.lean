/-! cancel and setPriority -/
theorem lr_a_congr' {o : Nat} {T : Int} {Z Z' : Nat → Nat → Int} (h : lr_a o T Z) (h2 : Z' o 2 = Z o 2) (h3 : Z' o 3 = Z o 3) (h4 : Z' o 4 = Z o 4) (h11 : 0 ≤ Z' o 11 ∧ Z' o 11 ≤ 1) (g0 : Z' 190 0 = Z 190 0) (g22 : Z' 190 22 = Z 190 22) (g : Z' 191 0 = Z 191 0) : lr_a o T Z' := by
  unfold lr_a at h ⊢
  rw [h2, h3, h4, g0, g22, g]
  obtain ⟨a1, a2, a3, a4, a5, a6, a7, a8, a9, -⟩ := h
  exact ⟨a1, a2, a3, a4, a5, a6, a7, a8, a9, h11⟩
theorem c_changePriority (i p : Int) (L : Nat) (Z : Nat → Nat → Int) (W : Nat → Nat) (o : Nat) (ho : pm_isL o) (h0 : 0 ≤ i) (h1 : i < 10) : pm_D (23, 0, [.ref o, .int (pm_J i), .int (pm_J p)], [], pm_hp L Z W) = some (none, pm_hp L (pm_up (pm_up Z (o + 9 + 6 + 5 * i.toNat) 5 p) o 11 0) W) := by
  obtain ⟨k1, k2, k3, k4, k5, -⟩ := pm_kdL ho
  obtain ⟨m1, -⟩ := pm_kdM (n := i.toNat) ho (by omega)
  simp (disch := first | assumption | decide +kernel | omega | (split <;> omega)) only [q_23_0, q_23_1, q_23_4, q_23_5, q_23_6, q_23_7, q_23_10, q_23_11, q_23_14, c_forgetTasks, pm_some, Option.toList_some, Option.toList_none, List.cons_append, List.nil_append]

theorem op_cancel : Op_cancel := by
  intro T L Z W hI hT0 hT a ha
  obtain ⟨⟨⟨a1, a2, a3, a4, a5, a6, a7, a8, a9, a10, a11⟩, ⟨⟨w1, w2, w3, w4, w5, w6⟩, ⟨w7, w8, w9⟩, w10⟩, ⟨⟨f1, f2, f3⟩, f4⟩, hms, hun, hco, hsh, htk⟩, htx, hbk, hon⟩ := id hI
  have a8' : 0 ≤ Z 46 4 := by omega
  have a9' : Z 46 4 ≤ 10 := by omega
  have a2' : 0 ≤ Z 46 2 := by omega
  have a3' : Z 46 2 ≤ 8 := by omega
  have a2'' : 0 ≤ Z 190 0 := by omega
  obtain ⟨⟨ra, rw_, rf, rm, ru, rc, rs, rt⟩, -⟩ := id hI
  by_cases hm : 0 ≤ a ∧ a < Z 190 22
  · skip
    have hi : ((a.toNat : Nat) : Int) = a := by omega
    obtain ⟨k1, k2, k3, k4, k5, k6, k7, k8, k9⟩ := kM46 (n := a.toNat) (by omega)
    have hmm : lm (61 + 5 * a.toNat) T Z a.toNat := hms a.toNat (by omega)
    obtain ⟨⟨⟨s1, s2, s3, s4, s5, s6, s7⟩, ⟨s8, s9, s10⟩, s11, s12, s13, s14, s15, s16, s17, s18, s19⟩, ⟨d1, d2, d3, d4, d5, d6, d7, d8, d9⟩, ml, mp, mc, mo⟩ := hmm
    have e1 : (31 + 8 * a + Z 205 a.toNat).toNat = 31 + 8 * a.toNat + (Z 205 a.toNat).toNat := by omega
    have e2 : (1 + a).toNat = 1 + a.toNat := by omega
    have e3 : (11 + a).toNat = 11 + a.toNat := by omega
    have e4 : (21 + a).toNat = 21 + a.toNat := by omega
    have hr7 : pm_r (Z (61 + 5 * a.toNat) 7) := by omega
    have hr1 : pm_r (Z 191 (1 + a).toNat) := by rw [e2]; omega
    by_cases hu : Z (61 + 5 * a.toNat) 7 = 0
    · have hu' : Z 191 (1 + a.toNat) = 0 := by omega
      have e5 : (31 + 8 * a + Z 206 a.toNat).toNat = 31 + 8 * a.toNat + (Z 206 a.toNat).toNat := by omega
      have hl := ml (Z 206 a.toNat).toNat (by rw [s9]; split <;> omega) (by rw [s10]; split <;> omega)
      refine ⟨Z (61 + 5 * a.toNat + 2) (Z 206 a.toNat).toNat, pm_up (pm_up Z (61 + 5 * a.toNat) 7 2) 46 11 0, W, pm_up (pm_up (pm_up Z (61 + 5 * a.toNat) 7 2) 46 11 0) 191 (1 + a.toNat) 2, W, by omega, ?_, ?_, Inv.up ?_, (by simp (disch := omega) only [pm_up_row]), (by simp (disch := omega) only [pm_up_row])⟩
      · have z1 : pm_up (pm_up Z (61 + 5 * a.toNat) 7 2) 46 11 0 (61 + 5 * a.toNat) 1 = Z 206 a.toNat := by
          rw [pm_up_ne (by omega), pm_up_ne (by omega)]; exact s2
        have z2 : pm_up (pm_up Z (61 + 5 * a.toNat) 7 2) 46 11 0 (61 + 5 * a.toNat + 2) (Z 206 a.toNat).toNat = Z (61 + 5 * a.toNat + 2) (Z 206 a.toNat).toNat := by
          rw [pm_up_ne (by omega), pm_up_ne (by omega)]
        have zr : pm_up (pm_up Z (61 + 5 * a.toNat) 7 2) 46 11 0 (61 + 5 * a.toNat) 1 < 8 := by omega
        have zr0 : 0 ≤ pm_up (pm_up Z (61 + 5 * a.toNat) 7 2) 46 11 0 (61 + 5 * a.toNat) 1 := by omega
        simp (disch := first | assumption | decide +kernel | omega | (split <;> omega)) only [q_87_0, q_87_1, q_87_4, q_87_5, q_87_8, q_87_11, q_87_13, q_87_14, q_87_15, q_87_18, q_87_21, q_87_22, q_87_23, q_87_24, q_87_25, q_87_28, q_87_31, q_87_33, q_87_34, q_87_35, q_87_36, q_87_39, q_87_40, q_87_43, q_87_46, q_87_47, q_87_50, q_87_51, q_87_54, q_87_55, c_hasMessage, c_isUnderWay, c_forgetTasks, pm_some, Option.toList_some, Option.toList_none, List.cons_append, List.nil_append, pm_i0, pm_i1, Nat.reduceAdd, Nat.reduceMul, Int.toNat_natCast, a7, hm, not_true_eq_false, not_false_eq_true, and_self, true_and, and_true, ↓reduceIte, Int.reduceEq, Int.reduceLT, Int.reduceLE, Int.reduceNeg, hu, z1, z2]
      · have z0 : (pm_up (pm_up Z (61 + 5 * a.toNat) 7 2) 46 11 0) 190 = Z 190 := (by simp (disch := omega) only [pm_up_row])
        have z1 : (pm_up (pm_up Z (61 + 5 * a.toNat) 7 2) 46 11 0) 191 = Z 191 := (by simp (disch := omega) only [pm_up_row])
        have z2 : (pm_up (pm_up Z (61 + 5 * a.toNat) 7 2) 46 11 0) 206 = Z 206 := (by simp (disch := omega) only [pm_up_row])
        generalize pm_up (pm_up Z (61 + 5 * a.toNat) 7 2) 46 11 0 = Z1 at z0 z1 z2 ⊢
        have g1 : 0 ≤ Z1 190 22 := by rw [z0]; omega
        have g2 : Z1 190 22 ≤ 10 := by rw [z0]; omega
        have g3 : pm_r (Z1 191 (1 + a).toNat) := by rw [z1]; exact hr1
        have z6 : pm_up Z1 191 (1 + a.toNat) 2 206 = Z1 206 := (by simp (disch := omega) only [pm_up_row])
        have g4 : 0 ≤ Z1 206 a.toNat := by rw [z2]; omega
        have g5 : Z1 206 a.toNat < 8 := by rw [z2]; omega
        have z7 : pm_up Z1 191 (1 + a.toNat) 2 191 (31 + 8 * a.toNat + (Z 206 a.toNat).toNat) = Z 191 (31 + 8 * a.toNat + (Z 206 a.toNat).toNat) := by rw [pm_up_ne (by omega), z1]
        simp (disch := first | assumption | decide +kernel | omega | (split <;> omega)) only [q_134_0, q_134_1, q_134_2, q_134_5, q_134_8, q_134_10, q_134_11, q_134_12, q_134_13, q_134_16, q_134_19, q_134_21, q_134_22, q_134_23, q_134_26, q_134_27, q_134_28, q_134_29, q_134_30, q_134_31, q_134_32, q_134_33, q_134_34, q_134_37, q_134_38, q_134_39, q_134_42, c_noMessage, c_R_isUnderWay, c_R_copyLong, pm_some, Option.toList_some, Option.toList_none, List.cons_append, List.nil_append, pm_i0, pm_i1, Nat.reduceAdd, Nat.reduceMul, Int.toNat_natCast, hm, not_true_eq_false, not_false_eq_true, and_self, true_and, and_true, ↓reduceIte, Int.reduceEq, Int.reduceLT, Int.reduceLE, Int.reduceNeg, z0, z1, z2, z6, e2, e5, z7, hu', ← hl.1]
      · refine ⟨⟨lr_a_congr' ra (by simp [pm_up]) (by simp [pm_up]) (by simp [pm_up]) (by simp [pm_up]) (by simp [pm_up]) (by simp [pm_up]) (by rw [pm_up_ne (by omega), pm_up_ne (by omega), pm_up_ne (by omega)]), lr_w_congr rw_ (by simp (disch := omega) only [pm_up_row]) (by simp (disch := omega) only [pm_up_row]) (by simp (disch := omega) only [pm_up_row]) (by simp (disch := omega) only [pm_up_row]) (by simp [pm_up]) (by simp [pm_up]) (by simp [pm_up]) (by simp (disch := omega) only [pm_up_row]) (by simp (disch := omega) only [pm_up_row]) (by simp (disch := omega) only [pm_up_row]), lr_f_congr rf (by simp (disch := omega) only [pm_up_row]) (by simp (disch := omega) only [pm_up_row]) (by simp (disch := omega) only [pm_up_row]) (by simp (disch := omega) only [pm_up_row]) (by simp [pm_up]) (by simp (disch := omega) only [pm_up_row]) (by simp (disch := omega) only [pm_up_row]) (by simp (disch := omega) only [pm_up_row]), ?_, ?_, lr_c_congr rc (fun l hl => (by simp (disch := omega) only [pm_up_row])) (fun q _ _ => by rw [pm_up_ne (by omega), pm_up_ne (by omega), pm_up_ne (by omega)]), lr_s_congr rs (by simp (disch := omega) only [pm_up_row]) (by simp [pm_up]) (fun q _ _ => by rw [pm_up_ne (by omega), pm_up_ne (by omega), pm_up_ne (by omega)]), ?_⟩, tx_congr htx (by simp [pm_up]) (by simp (disch := omega) only [pm_up_row]) (by simp [pm_up]) (by simp (disch := omega) only [pm_up_row]), bk_congr hbk (by simp [pm_up]) (fun b _ _ => (by simp (disch := omega) only [pm_up_row])) (by simp [pm_up]) (by simp (disch := omega) only [pm_up_row]) (by simp (disch := omega) only [pm_up_row]) (by simp (disch := omega) only [pm_up_row]) (by simp (disch := omega) only [pm_up_row]), ?_⟩
        · intro j hj
          have hj : (j : Int) < Z 190 22 := by simpa [pm_up] using hj
          by_cases hji : j = a.toNat
          · subst hji
            obtain ⟨ms, md, ml', mp', mc', mo'⟩ := rm a.toNat hj
            have u191 : ∀ q, q ≠ 1 + a.toNat → pm_up (pm_up (pm_up Z (61 + 5 * a.toNat) 7 2) 46 11 0) 191 (1 + a.toNat) 2 191 q = Z 191 q := fun q hq => by rw [pm_up_ne (by omega), pm_up_ne (by omega), pm_up_ne (by omega)]
            have ua : ∀ q, q ≠ 7 → pm_up (pm_up (pm_up Z (61 + 5 * a.toNat) 7 2) 46 11 0) 191 (1 + a.toNat) 2 (61 + 5 * a.toNat) q = Z (61 + 5 * a.toNat) q := fun q hq => by rw [pm_up_ne (by omega), pm_up_ne (by omega), pm_up_ne (by omega)]
            have u7 : pm_up (pm_up (pm_up Z (61 + 5 * a.toNat) 7 2) 46 11 0) 191 (1 + a.toNat) 2 (61 + 5 * a.toNat) 7 = 2 := by rw [pm_up_ne (by omega), pm_up_ne (by omega), pm_up_same]
            have u7' : pm_up (pm_up (pm_up Z (61 + 5 * a.toNat) 7 2) 46 11 0) 191 (1 + a.toNat) 2 191 (1 + a.toNat) = 2 := by rw [pm_up_same]
            have ub : ∀ k, 1 ≤ k → k ≤ 4 → pm_up (pm_up (pm_up Z (61 + 5 * a.toNat) 7 2) 46 11 0) 191 (1 + a.toNat) 2 (61 + 5 * a.toNat + k) = Z (61 + 5 * a.toNat + k) := fun k h1 h2 => (by simp (disch := omega) only [pm_up_row])
            have u190 : pm_up (pm_up (pm_up Z (61 + 5 * a.toNat) 7 2) 46 11 0) 191 (1 + a.toNat) 2 190 = Z 190 := (by simp (disch := omega) only [pm_up_row])
            have u5 : ∀ b, 205 ≤ b → b ≤ 208 → pm_up (pm_up (pm_up Z (61 + 5 * a.toNat) 7 2) 46 11 0) 191 (1 + a.toNat) 2 b = Z b := fun b h1 h2 => (by simp (disch := omega) only [pm_up_row])
            generalize pm_up (pm_up (pm_up Z (61 + 5 * a.toNat) 7 2) 46 11 0) 191 (1 + a.toNat) 2 = Z2 at u191 ua u7 u7' ub u190 u5 ⊢
            refine ⟨?_, ?_, ?_, ?_, ?_, ?_⟩
            · show lm_s (61 + 5 * a.toNat) T Z2 a.toNat
              unfold lm_s
              rw [ua 0 (by omega), ua 1 (by omega), ua 2 (by omega), ua 3 (by omega), ua 4 (by omega), ua 5 (by omega), ua 6 (by omega), ua 8 (by omega), u190, u5 205 (by omega) (by omega), u5 206 (by omega) (by omega), u5 207 (by omega) (by omega), u5 208 (by omega) (by omega), u191 _ (by omega)]
              exact ms
            · show lm_d (61 + 5 * a.toNat) T Z2 a.toNat
              unfold lm_d
              rw [u7, u7', ua 9 (by omega), ua 10 (by omega), u191 (21 + a.toNat) (by omega)]
              exact ⟨rfl, by omega, by omega, fun q => by omega, d5, d6, d7, d8, d9⟩
            · intro t q1 q2
              show Z2 (61 + 5 * a.toNat + 2) t = _ ∧ _
              have q1 : Z2 (61 + 5 * a.toNat) 3 ≤ t := q1
              have q2 : (t : Int) ≤ Z2 (61 + 5 * a.toNat) 4 := q2
              rw [ua 3 (by omega)] at q1
              rw [ua 4 (by omega)] at q2
              have := ml' t q1 q2
              rw [ub 2 (by omega) (by omega), u191 _ (by omega)]
              show _ ∧ _ ∧ _ ≤ Z2 (61 + 5 * a.toNat) 6
              rw [ua 6 (by omega)]
              exact this
            · intro t q1 q2
              show Z2 (61 + 5 * a.toNat + 3) t = _ ∧ _ ∧ _ ∧ Z2 (61 + 5 * a.toNat + 4) t = _ ∧ _
              have q1 : Z2 (61 + 5 * a.toNat) 3 ≤ t := q1
              have q2 : (t : Int) < Z2 (61 + 5 * a.toNat) 4 := q2
              rw [ua 3 (by omega)] at q1
              rw [ua 4 (by omega)] at q2
              have := mp' t q1 q2
              rw [ub 3 (by omega) (by omega), ub 4 (by omega) (by omega), u191 _ (by omega), u191 _ (by omega)]
              exact this
            · intro t k q1 q2 q3
              have q1 : Z2 (61 + 5 * a.toNat) 3 ≤ t := q1
              have q2 : (t : Int) ≤ Z2 (61 + 5 * a.toNat) 4 := q2
              have q3 : (k : Int) < Z2 (61 + 5 * a.toNat + 2) t := q3
              rw [ua 3 (by omega)] at q1
              rw [ua 4 (by omega)] at q2
              rw [ub 2 (by omega) (by omega)] at q3
              have := mc' t k q1 q2 q3
              show Z2 (61 + 5 * a.toNat + 1) (t * 30 + k) = _ ∧ _
              rw [ub 1 (by omega) (by omega), u191 _ (by omega)]
              exact this
            · refine ⟨fun t q1 q2 => ?_, fun q => ?_⟩
              · have q1 : Z2 (61 + 5 * a.toNat) 3 ≤ t := q1
                have q2 : (t : Int) < Z2 (61 + 5 * a.toNat) 4 := q2
                rw [ua 3 (by omega)] at q1
                rw [ua 4 (by omega)] at q2
                have := mo'.1 t q1 q2
                show if Z2 205 a.toNat < Z2 206 a.toNat then Z2 (61 + 5 * a.toNat + 2) (t + 1) ≤ Z2 (61 + 5 * a.toNat + 2) t else Z2 (61 + 5 * a.toNat + 2) t ≤ Z2 (61 + 5 * a.toNat + 2) (t + 1)
                rw [ub 2 (by omega) (by omega), u5 205 (by omega) (by omega), u5 206 (by omega) (by omega)]
                exact this
              · have q : Z2 (61 + 5 * a.toNat) 7 = 0 := q
                omega
          · exact lm_congr (rm j hj) (by simp (disch := omega) only [pm_up_row]) (by simp (disch := omega) only [pm_up_row]) (by simp (disch := omega) only [pm_up_row]) (by simp (disch := omega) only [pm_up_row]) (by simp (disch := omega) only [pm_up_row]) (by simp [pm_up]) a3 (by rw [pm_up_ne (by omega), pm_up_ne (by omega), pm_up_ne (by omega)]) (by rw [pm_up_ne (by omega), pm_up_ne (by omega), pm_up_ne (by omega)]) (by rw [pm_up_ne (by omega), pm_up_ne (by omega), pm_up_ne (by omega)]) (by rw [pm_up_ne (by omega), pm_up_ne (by omega), pm_up_ne (by omega)]) (fun q hq => by unfold s191 at hq; rw [pm_up_ne (by omega), pm_up_ne (by omega), pm_up_ne (by omega)])
        · intro j h1 h2
          have h1 : Z 190 22 ≤ j := by simpa [pm_up] using h1
          have := ru j h1 h2
          have u191 : ∀ q, q ≠ 1 + a.toNat → pm_up (pm_up (pm_up Z (61 + 5 * a.toNat) 7 2) 46 11 0) 191 (1 + a.toNat) 2 191 q = Z 191 q := fun q hq => by rw [pm_up_ne (by omega), pm_up_ne (by omega), pm_up_ne (by omega)]
          refine ⟨by rw [u191 _ (by omega)]; exact this.1, by rw [u191 _ (by omega)]; exact this.2.1, fun t ht => ?_⟩
          rw [u191 _ (by omega), u191 _ (by omega), u191 _ (by omega)]
          exact this.2.2 t ht
        · intro q
          simp [pm_up] at q
        · simpa [pm_up] using hon
    · have hu' : ¬ Z 191 (1 + a.toNat) = 0 := by omega
      refine Op.same hI (-4) (by decide) ?_ ?_
      · simp (disch := first | assumption | decide +kernel | omega | (split <;> omega)) only [q_87_0, q_87_1, q_87_4, q_87_5, q_87_8, q_87_11, q_87_13, q_87_14, q_87_15, q_87_18, q_87_21, q_87_22, q_87_23, q_87_24, q_87_25, q_87_28, q_87_31, q_87_33, q_87_34, q_87_35, q_87_36, q_87_39, q_87_40, q_87_43, q_87_46, q_87_47, q_87_50, q_87_51, q_87_54, q_87_55, c_hasMessage, c_isUnderWay, c_forgetTasks, pm_some, Option.toList_some, Option.toList_none, List.cons_append, List.nil_append, pm_i0, pm_i1, Nat.reduceAdd, Nat.reduceMul, Int.toNat_natCast, a7, hm, not_true_eq_false, not_false_eq_true, and_self, true_and, and_true, ↓reduceIte, Int.reduceEq, Int.reduceLT, Int.reduceLE, Int.reduceNeg, hu]
      · simp (disch := first | assumption | decide +kernel | omega | (split <;> omega)) only [q_134_0, q_134_1, q_134_2, q_134_5, q_134_8, q_134_10, q_134_11, q_134_12, q_134_13, q_134_16, q_134_19, q_134_21, q_134_22, q_134_23, q_134_26, q_134_27, q_134_28, q_134_29, q_134_30, q_134_31, q_134_32, q_134_33, q_134_34, q_134_37, q_134_38, q_134_39, q_134_42, c_noMessage, c_R_isUnderWay, c_R_copyLong, pm_some, Option.toList_some, Option.toList_none, List.cons_append, List.nil_append, pm_i0, pm_i1, Nat.reduceAdd, Nat.reduceMul, Int.toNat_natCast, hm, not_true_eq_false, not_false_eq_true, and_self, true_and, and_true, ↓reduceIte, Int.reduceEq, Int.reduceLT, Int.reduceLE, Int.reduceNeg, e2, hu']
  · refine Op.same hI (-2) (by decide) ?_ ?_
    · simp (disch := first | assumption | decide +kernel | omega | (split <;> omega)) only [q_87_0, q_87_1, q_87_4, q_87_5, q_87_8, q_87_11, q_87_13, q_87_14, q_87_15, q_87_18, q_87_21, q_87_22, q_87_23, q_87_24, q_87_25, q_87_28, q_87_31, q_87_33, q_87_34, q_87_35, q_87_36, q_87_39, q_87_40, q_87_43, q_87_46, q_87_47, q_87_50, q_87_51, q_87_54, q_87_55, c_hasMessage, c_isUnderWay, c_forgetTasks, pm_some, Option.toList_some, Option.toList_none, List.cons_append, List.nil_append, pm_i0, pm_i1, Nat.reduceAdd, Nat.reduceMul, Int.toNat_natCast, a7, hm, not_true_eq_false, not_false_eq_true, and_self, true_and, and_true, ↓reduceIte, Int.reduceEq, Int.reduceLT, Int.reduceLE, Int.reduceNeg]
    · simp (disch := first | assumption | decide +kernel | omega | (split <;> omega)) only [q_134_0, q_134_1, q_134_2, q_134_5, q_134_8, q_134_10, q_134_11, q_134_12, q_134_13, q_134_16, q_134_19, q_134_21, q_134_22, q_134_23, q_134_26, q_134_27, q_134_28, q_134_29, q_134_30, q_134_31, q_134_32, q_134_33, q_134_34, q_134_37, q_134_38, q_134_39, q_134_42, c_noMessage, c_R_isUnderWay, c_R_copyLong, pm_some, Option.toList_some, Option.toList_none, List.cons_append, List.nil_append, pm_i0, pm_i1, Nat.reduceAdd, Nat.reduceMul, Int.toNat_natCast, hm, not_true_eq_false, not_false_eq_true, and_self, true_and, and_true, ↓reduceIte, Int.reduceEq, Int.reduceLT, Int.reduceLE, Int.reduceNeg]

/-- message i where only what the heads say has changed -/
theorem lm_of {a i : Nat} {T : Int} {Z Z' : Nat → Nat → Int} (h : lm a T Z i) (hg : Z 190 0 ≤ 8) (hs : lm_s a T Z' i) (hd : lm_d a T Z' i) (h3 : Z' a 3 = Z a 3) (h4 : Z' a 4 = Z a 4) (h6 : Z' a 6 = Z a 6) (h1 : Z' (a + 1) = Z (a + 1)) (h2 : Z' (a + 2) = Z (a + 2)) (hp3 : Z' (a + 3) = Z (a + 3)) (hp4 : Z' (a + 4) = Z (a + 4)) (r1 : Z' 205 i = Z 205 i) (r2 : Z' 206 i = Z 206 i) (g : ∀ q, s191 i q → 31 ≤ q → Z' 191 q = Z 191 q) (hw : Z' a 7 = 0 → Z a 7 = 0) : lm a T Z' i := by
  obtain ⟨hs0, hd0, hl, hp, hc, ho⟩ := h
  obtain ⟨⟨p1, p2, p3, p4, p5, p6, p7⟩, ⟨p8, p9, p10⟩, p11⟩ := id hs0
  have hb3 : 0 ≤ Z a 3 := by rw [p9]; split <;> omega
  have hb4 : Z a 4 < 8 := by rw [p10]; split <;> omega
  refine ⟨hs, hd, ?_, ?_, ?_, ?_⟩
  · intro t k1 k2
    rw [h3] at k1
    rw [h4] at k2
    have := hl t k1 k2
    rw [h2, h6, g _ (by unfold s191; omega) (by omega)]
    exact this
  · intro t k1 k2
    rw [h3] at k1
    rw [h4] at k2
    have := hp t k1 k2
    rw [hp3, hp4, g (111 + 8 * i + t) (by unfold s191; omega) (by omega), g (191 + 8 * i + t) (by unfold s191; omega) (by omega)]
    exact this
  · intro t k k1 k2 k3
    rw [h3] at k1
    rw [h4] at k2
    rw [h2] at k3
    have hlt := hl t k1 k2
    obtain ⟨b1, b2, b3, b4, b5, b6, b7⟩ := p11
    have := hc t k k1 k2 k3
    rw [h1, g _ (by unfold s191; omega) (by omega)]
    exact this
  · obtain ⟨o1, o2⟩ := ho
    refine ⟨fun t k1 k2 => ?_, fun k => ?_⟩
    · rw [h3] at k1
      rw [h4] at k2
      rw [r1, r2, h2]
      exact o1 t k1 k2
    · rw [h6, r2, h2]
      exact o2 (hw k)

theorem op_setPriority : Op_setPriority := by
  intro T L Z W hI hT0 hT a b ha hb
  obtain ⟨⟨⟨a1, a2, a3, a4, a5, a6, a7, a8, a9, a10, a11⟩, ⟨⟨w1, w2, w3, w4, w5, w6⟩, ⟨w7, w8, w9⟩, w10⟩, ⟨⟨f1, f2, f3⟩, f4⟩, hms, hun, hco, hsh, htk⟩, htx, hbk, hon⟩ := id hI
  have a8' : 0 ≤ Z 46 4 := by omega
  have a9' : Z 46 4 ≤ 10 := by omega
  have a2' : 0 ≤ Z 46 2 := by omega
  have a3' : Z 46 2 ≤ 8 := by omega
  have a2'' : 0 ≤ Z 190 0 := by omega
  obtain ⟨⟨ra, rw_, rf, rm, ru, rc, rs, rt⟩, -⟩ := id hI
  have ho46 : pm_isL 46 := Or.inl rfl
  by_cases hm : 0 ≤ a ∧ a < Z 190 22
  · skip
    have hi : ((a.toNat : Nat) : Int) = a := by omega
    obtain ⟨k1, k2, k3, k4, k5, k6, k7, k8, k9⟩ := kM46 (n := a.toNat) (by omega)
    have hmm : lm (61 + 5 * a.toNat) T Z a.toNat := hms a.toNat (by omega)
    obtain ⟨⟨⟨s1, s2, s3, s4, s5, s6, s7⟩, ⟨s8, s9, s10⟩, s11, s12, s13, s14, s15, s16, s17, s18, s19⟩, ⟨d1, d2, d3, d4, d5, d6, d7, d8, d9⟩, ml, mp, mc, mo⟩ := hmm
    have e1 : (31 + 8 * a + Z 205 a.toNat).toNat = 31 + 8 * a.toNat + (Z 205 a.toNat).toNat := by omega
    have e2 : (1 + a).toNat = 1 + a.toNat := by omega
    have e3 : (11 + a).toNat = 11 + a.toNat := by omega
    have e4 : (21 + a).toNat = 21 + a.toNat := by omega
    have hr7 : pm_r (Z (61 + 5 * a.toNat) 7) := by omega
    have hr1 : pm_r (Z 191 (1 + a).toNat) := by rw [e2]; omega
    by_cases hp : 0 ≤ b ∧ b ≤ 2
    · by_cases hu : Z (61 + 5 * a.toNat) 7 = 0
      · have hu' : Z 191 (1 + a.toNat) = 0 := by omega
        refine ⟨Z 207 a.toNat, pm_up (pm_up Z (61 + 5 * a.toNat) 5 b) 46 11 0, W, pm_up (pm_up (pm_up Z (61 + 5 * a.toNat) 5 b) 46 11 0) 207 a.toNat b, W, by omega, ?_, ?_, Inv.up ?_, (by simp (disch := omega) only [pm_up_row]), (by simp (disch := omega) only [pm_up_row])⟩
        · simp (disch := first | assumption | decide +kernel | omega | (split <;> omega)) only [q_88_0, q_88_1, q_88_4, q_88_5, q_88_8, q_88_11, q_88_13, q_88_14, q_88_15, q_88_18, q_88_21, q_88_23, q_88_24, q_88_25, q_88_28, q_88_31, q_88_32, q_88_33, q_88_36, q_88_39, q_88_41, q_88_42, q_88_43, q_88_46, q_88_49, q_88_50, q_88_51, q_88_54, q_88_55, q_88_56, q_88_59, q_88_60, q_88_61, q_88_64, q_88_65, c_hasMessage, c_isPriority, c_isUnderWay, c_changePriority, pm_some, Option.toList_some, Option.toList_none, List.cons_append, List.nil_append, pm_i0, pm_i1, Nat.reduceAdd, Nat.reduceMul, Int.toNat_natCast, a7, hm, not_true_eq_false, not_false_eq_true, and_self, true_and, and_true, ↓reduceIte, Int.reduceEq, Int.reduceLT, Int.reduceLE, Int.reduceNeg, hp, hu, s11]
        · have z0 : (pm_up (pm_up Z (61 + 5 * a.toNat) 5 b) 46 11 0) 190 = Z 190 := (by simp (disch := omega) only [pm_up_row])
          have z1 : (pm_up (pm_up Z (61 + 5 * a.toNat) 5 b) 46 11 0) 191 = Z 191 := (by simp (disch := omega) only [pm_up_row])
          have z2 : (pm_up (pm_up Z (61 + 5 * a.toNat) 5 b) 46 11 0) 207 = Z 207 := (by simp (disch := omega) only [pm_up_row])
          generalize pm_up (pm_up Z (61 + 5 * a.toNat) 5 b) 46 11 0 = Z1 at z0 z1 z2 ⊢
          have g1 : 0 ≤ Z1 190 22 := by rw [z0]; omega
          have g2 : Z1 190 22 ≤ 10 := by rw [z0]; omega
          have g3 : pm_r (Z1 191 (1 + a).toNat) := by rw [z1]; exact hr1
          simp (disch := first | assumption | decide +kernel | omega | (split <;> omega)) only [q_135_0, q_135_1, q_135_2, q_135_5, q_135_8, q_135_10, q_135_11, q_135_12, q_135_13, q_135_14, q_135_17, q_135_20, q_135_22, q_135_23, q_135_24, q_135_25, q_135_28, q_135_31, q_135_33, q_135_34, q_135_35, q_135_38, q_135_39, q_135_40, q_135_41, q_135_42, q_135_45, q_135_46, q_135_47, q_135_48, q_135_49, c_noMessage, c_in, c_R_isUnderWay, pm_some, Option.toList_some, Option.toList_none, List.cons_append, List.nil_append, pm_i0, pm_i1, Nat.reduceAdd, Nat.reduceMul, Int.toNat_natCast, hm, not_true_eq_false, not_false_eq_true, and_self, true_and, and_true, ↓reduceIte, Int.reduceEq, Int.reduceLT, Int.reduceLE, Int.reduceNeg, hp, z0, z1, z2, e2, hu']
        · have u191 : pm_up (pm_up (pm_up Z (61 + 5 * a.toNat) 5 b) 46 11 0) 207 a.toNat b 191 = Z 191 := (by simp (disch := omega) only [pm_up_row])
          refine ⟨⟨lr_a_congr' ra (by simp [pm_up]) (by simp [pm_up]) (by simp [pm_up]) (by simp [pm_up]) (by simp [pm_up]) (by simp [pm_up]) (by rw [u191]), lr_w_congr rw_ (by simp (disch := omega) only [pm_up_row]) (by simp (disch := omega) only [pm_up_row]) (by simp (disch := omega) only [pm_up_row]) (by simp (disch := omega) only [pm_up_row]) (by rw [pm_up_ne (by omega), pm_up_ne (by omega), pm_up_ne (by omega)]) (by rw [pm_up_ne (by omega), pm_up_ne (by omega), pm_up_ne (by omega)]) (by rw [pm_up_ne (by omega), pm_up_ne (by omega), pm_up_ne (by omega)]) (by simp (disch := omega) only [pm_up_row]) (by simp (disch := omega) only [pm_up_row]) (by simp (disch := omega) only [pm_up_row]), lr_f_congr rf (by simp (disch := omega) only [pm_up_row]) (by simp (disch := omega) only [pm_up_row]) (by simp (disch := omega) only [pm_up_row]) (by simp (disch := omega) only [pm_up_row]) (by simp [pm_up]) (by simp (disch := omega) only [pm_up_row]) (by simp (disch := omega) only [pm_up_row]) (by simp (disch := omega) only [pm_up_row]), ?_, lr_u_congr ru (by simp [pm_up]) (by simp (disch := omega) only [pm_up_row]), lr_c_congr rc (fun l hl => (by simp (disch := omega) only [pm_up_row])) (fun q _ _ => by rw [u191]), lr_s_congr rs (by simp (disch := omega) only [pm_up_row]) (by simp [pm_up]) (fun q _ _ => by rw [u191]), ?_⟩, tx_congr htx (by simp [pm_up]) (by simp (disch := omega) only [pm_up_row]) (by simp [pm_up]) (by simp (disch := omega) only [pm_up_row]), bk_congr hbk (by simp [pm_up]) (fun b _ _ => (by simp (disch := omega) only [pm_up_row])) (by simp [pm_up]) (by simp (disch := omega) only [pm_up_row]) (by simp (disch := omega) only [pm_up_row]) (by simp (disch := omega) only [pm_up_row]) (by simp (disch := omega) only [pm_up_row]), ?_⟩
          · intro j hj
            have hj : (j : Int) < Z 190 22 := by simpa [pm_up] using hj
            by_cases hji : j = a.toNat
            · subst hji
              have hmj : lm (61 + 5 * a.toNat) T Z a.toNat := rm a.toNat hj
              have ua : ∀ q, q ≠ 5 → pm_up (pm_up (pm_up Z (61 + 5 * a.toNat) 5 b) 46 11 0) 207 a.toNat b (61 + 5 * a.toNat) q = Z (61 + 5 * a.toNat) q := fun q hq => (by rw [pm_up_ne (by omega), pm_up_ne (by omega), pm_up_ne (by omega)])
              have u5 : pm_up (pm_up (pm_up Z (61 + 5 * a.toNat) 5 b) 46 11 0) 207 a.toNat b (61 + 5 * a.toNat) 5 = b := by rw [pm_up_ne (by omega), pm_up_ne (by omega), pm_up_same]
              have u7 : pm_up (pm_up (pm_up Z (61 + 5 * a.toNat) 5 b) 46 11 0) 207 a.toNat b 207 a.toNat = b := by rw [pm_up_same]
              have ub : ∀ k, 1 ≤ k → k ≤ 4 → pm_up (pm_up (pm_up Z (61 + 5 * a.toNat) 5 b) 46 11 0) 207 a.toNat b (61 + 5 * a.toNat + k) = Z (61 + 5 * a.toNat + k) := fun k h1 h2 => (by simp (disch := omega) only [pm_up_row])
              have u190 : pm_up (pm_up (pm_up Z (61 + 5 * a.toNat) 5 b) 46 11 0) 207 a.toNat b 190 = Z 190 := (by simp (disch := omega) only [pm_up_row])
              have v5 : pm_up (pm_up (pm_up Z (61 + 5 * a.toNat) 5 b) 46 11 0) 207 a.toNat b 205 = Z 205 := (by simp (disch := omega) only [pm_up_row])
              have v6 : pm_up (pm_up (pm_up Z (61 + 5 * a.toNat) 5 b) 46 11 0) 207 a.toNat b 206 = Z 206 := (by simp (disch := omega) only [pm_up_row])
              have v8 : pm_up (pm_up (pm_up Z (61 + 5 * a.toNat) 5 b) 46 11 0) 207 a.toNat b 208 = Z 208 := (by simp (disch := omega) only [pm_up_row])
              generalize pm_up (pm_up (pm_up Z (61 + 5 * a.toNat) 5 b) 46 11 0) 207 a.toNat b = Z2 at u191 ua u5 u7 ub u190 v5 v6 v8 ⊢
              show lm (61 + 5 * a.toNat) T Z2 a.toNat
              refine lm_of hmj a3 ?_ ?_ (ua 3 (by omega)) (ua 4 (by omega)) (ua 6 (by omega)) (ub 1 (by omega) (by omega)) (ub 2 (by omega) (by omega)) (ub 3 (by omega) (by omega)) (ub 4 (by omega) (by omega)) (by rw [v5]) (by rw [v6]) (fun q _ _ => by rw [u191]) (fun q => by rw [ua 7 (by omega)] at q; exact q)
              · unfold lm_s
                rw [ua 0 (by omega), ua 1 (by omega), ua 2 (by omega), ua 3 (by omega), ua 4 (by omega), u5, u7, ua 6 (by omega), ua 8 (by omega), u190, v5, v6, v8, u191]
                exact ⟨⟨s1, s2, s3, s4, s5, s6, s7⟩, ⟨s8, s9, s10⟩, rfl, hp.1, hp.2, s14, s15, s16, s17, s18, s19⟩
              · unfold lm_d
                rw [ua 7 (by omega), ua 9 (by omega), ua 10 (by omega), u191]
                exact ⟨d1, d2, d3, d4, d5, d6, d7, d8, d9⟩
            · exact lm_congr (rm j hj) (by simp (disch := omega) only [pm_up_row]) (by simp (disch := omega) only [pm_up_row]) (by simp (disch := omega) only [pm_up_row]) (by simp (disch := omega) only [pm_up_row]) (by simp (disch := omega) only [pm_up_row]) (by simp [pm_up]) a3 (by rw [pm_up_ne (by omega), pm_up_ne (by omega), pm_up_ne (by omega)]) (by rw [pm_up_ne (by omega), pm_up_ne (by omega), pm_up_ne (by omega)]) (by rw [pm_up_ne (by omega), pm_up_ne (by omega), pm_up_ne (by omega)]) (by rw [pm_up_ne (by omega), pm_up_ne (by omega), pm_up_ne (by omega)]) (fun q hq => by rw [u191])
          · intro q
            simp [pm_up] at q
          · simpa [pm_up] using hon
      · have hu' : ¬ Z 191 (1 + a.toNat) = 0 := by omega
        refine Op.same hI (-4) (by decide) ?_ ?_
        · simp (disch := first | assumption | decide +kernel | omega | (split <;> omega)) only [q_88_0, q_88_1, q_88_4, q_88_5, q_88_8, q_88_11, q_88_13, q_88_14, q_88_15, q_88_18, q_88_21, q_88_23, q_88_24, q_88_25, q_88_28, q_88_31, q_88_32, q_88_33, q_88_36, q_88_39, q_88_41, q_88_42, q_88_43, q_88_46, q_88_49, q_88_50, q_88_51, q_88_54, q_88_55, q_88_56, q_88_59, q_88_60, q_88_61, q_88_64, q_88_65, c_hasMessage, c_isPriority, c_isUnderWay, c_changePriority, pm_some, Option.toList_some, Option.toList_none, List.cons_append, List.nil_append, pm_i0, pm_i1, Nat.reduceAdd, Nat.reduceMul, Int.toNat_natCast, a7, hm, not_true_eq_false, not_false_eq_true, and_self, true_and, and_true, ↓reduceIte, Int.reduceEq, Int.reduceLT, Int.reduceLE, Int.reduceNeg, hp, hu]
        · simp (disch := first | assumption | decide +kernel | omega | (split <;> omega)) only [q_135_0, q_135_1, q_135_2, q_135_5, q_135_8, q_135_10, q_135_11, q_135_12, q_135_13, q_135_14, q_135_17, q_135_20, q_135_22, q_135_23, q_135_24, q_135_25, q_135_28, q_135_31, q_135_33, q_135_34, q_135_35, q_135_38, q_135_39, q_135_40, q_135_41, q_135_42, q_135_45, q_135_46, q_135_47, q_135_48, q_135_49, c_noMessage, c_in, c_R_isUnderWay, pm_some, Option.toList_some, Option.toList_none, List.cons_append, List.nil_append, pm_i0, pm_i1, Nat.reduceAdd, Nat.reduceMul, Int.toNat_natCast, hm, not_true_eq_false, not_false_eq_true, and_self, true_and, and_true, ↓reduceIte, Int.reduceEq, Int.reduceLT, Int.reduceLE, Int.reduceNeg, hp, e2, hu']
    · refine Op.same hI (-3) (by decide) ?_ ?_
      · simp (disch := first | assumption | decide +kernel | omega | (split <;> omega)) only [q_88_0, q_88_1, q_88_4, q_88_5, q_88_8, q_88_11, q_88_13, q_88_14, q_88_15, q_88_18, q_88_21, q_88_23, q_88_24, q_88_25, q_88_28, q_88_31, q_88_32, q_88_33, q_88_36, q_88_39, q_88_41, q_88_42, q_88_43, q_88_46, q_88_49, q_88_50, q_88_51, q_88_54, q_88_55, q_88_56, q_88_59, q_88_60, q_88_61, q_88_64, q_88_65, c_hasMessage, c_isPriority, c_isUnderWay, c_changePriority, pm_some, Option.toList_some, Option.toList_none, List.cons_append, List.nil_append, pm_i0, pm_i1, Nat.reduceAdd, Nat.reduceMul, Int.toNat_natCast, a7, hm, not_true_eq_false, not_false_eq_true, and_self, true_and, and_true, ↓reduceIte, Int.reduceEq, Int.reduceLT, Int.reduceLE, Int.reduceNeg, hp]
      · simp (disch := first | assumption | decide +kernel | omega | (split <;> omega)) only [q_135_0, q_135_1, q_135_2, q_135_5, q_135_8, q_135_10, q_135_11, q_135_12, q_135_13, q_135_14, q_135_17, q_135_20, q_135_22, q_135_23, q_135_24, q_135_25, q_135_28, q_135_31, q_135_33, q_135_34, q_135_35, q_135_38, q_135_39, q_135_40, q_135_41, q_135_42, q_135_45, q_135_46, q_135_47, q_135_48, q_135_49, c_noMessage, c_in, c_R_isUnderWay, pm_some, Option.toList_some, Option.toList_none, List.cons_append, List.nil_append, pm_i0, pm_i1, Nat.reduceAdd, Nat.reduceMul, Int.toNat_natCast, hm, not_true_eq_false, not_false_eq_true, and_self, true_and, and_true, ↓reduceIte, Int.reduceEq, Int.reduceLT, Int.reduceLE, Int.reduceNeg, hp]
  · refine Op.same hI (-2) (by decide) ?_ ?_
    · simp (disch := first | assumption | decide +kernel | omega | (split <;> omega)) only [q_88_0, q_88_1, q_88_4, q_88_5, q_88_8, q_88_11, q_88_13, q_88_14, q_88_15, q_88_18, q_88_21, q_88_23, q_88_24, q_88_25, q_88_28, q_88_31, q_88_32, q_88_33, q_88_36, q_88_39, q_88_41, q_88_42, q_88_43, q_88_46, q_88_49, q_88_50, q_88_51, q_88_54, q_88_55, q_88_56, q_88_59, q_88_60, q_88_61, q_88_64, q_88_65, c_hasMessage, c_isPriority, c_isUnderWay, c_changePriority, pm_some, Option.toList_some, Option.toList_none, List.cons_append, List.nil_append, pm_i0, pm_i1, Nat.reduceAdd, Nat.reduceMul, Int.toNat_natCast, a7, hm, not_true_eq_false, not_false_eq_true, and_self, true_and, and_true, ↓reduceIte, Int.reduceEq, Int.reduceLT, Int.reduceLE, Int.reduceNeg]
    · simp (disch := first | assumption | decide +kernel | omega | (split <;> omega)) only [q_135_0, q_135_1, q_135_2, q_135_5, q_135_8, q_135_10, q_135_11, q_135_12, q_135_13, q_135_14, q_135_17, q_135_20, q_135_22, q_135_23, q_135_24, q_135_25, q_135_28, q_135_31, q_135_33, q_135_34, q_135_35, q_135_38, q_135_39, q_135_40, q_135_41, q_135_42, q_135_45, q_135_46, q_135_47, q_135_48, q_135_49, c_noMessage, c_in, c_R_isUnderWay, pm_some, Option.toList_some, Option.toList_none, List.cons_append, List.nil_append, pm_i0, pm_i1, Nat.reduceAdd, Nat.reduceMul, Int.toNat_natCast, hm, not_true_eq_false, not_false_eq_true, and_self, true_and, and_true, ↓reduceIte, Int.reduceEq, Int.reduceLT, Int.reduceLE, Int.reduceNeg]
