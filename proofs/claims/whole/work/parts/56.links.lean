/-! both sides go through the links -/
theorem jw3 {o l m a bf bh : Nat} {T n s st h c e p er f : Int} {V0 V : Nat → Nat → Int} (ho : pm_isL o) (S : mst o T V0) (M : mid o l T V0 V) (hl : (l : Int) < V0 190 0 - 1) (hm : (m : Int) < V0 190 22) (ea : a = o + 9 + 6 + 5 * m) (H : cw o a l bf bh n s st h c e p er V) (F : cf o l c f V) (HR : rw_ m l bf bh n s st h c e p er V) (FR : rf l c f V) (L : Nat) (W : Nat → Nat) (hst : st = 2) (heq : (h + f) % 100 = s) (hst0 : V 191 (1 + m) = 0) (htk : V0 (o + 14) (l + 1) = (l : Int)) : Jw o l a m T L W V0 V := by
  have hx : o = 46 ∨ o = 118 := ho
  have S1 := S.1
  have mm := M.2.1 m hm
  have ms := M.2.2.2.2.1
  have mv190 : V 190 = V0 190 := M.1.1 190 (Or.inl rfl)
  have m10 : m < 10 := by omega
  obtain ⟨hd, hl7, ⟨c1, c2, c3, c4⟩, hlen, ⟨n1, n2, n3, n4⟩, ⟨s1, s2, s3⟩, ⟨t1, t2, t3⟩, ⟨h1, h2, h3⟩, ⟨u1, u2, u3⟩, ⟨e1, e2, e3⟩, ⟨p1, p2, p3⟩, ⟨r1, r2, r3⟩, ⟨d1, d2⟩⟩ := id H
  obtain ⟨hdR, -, -, ⟨-, -⟩, ⟨n1', n2', n3'⟩, ⟨s1', -⟩, ⟨t1', -⟩, ⟨h1', -⟩, ⟨u1', -⟩, ⟨e1', -⟩, ⟨p1', -⟩, ⟨r1', -⟩⟩ := id HR
  have bfh : bf ≠ bh ∧ bf < 8 ∧ bh < 8 := by omega
  by_cases w : wC3 o a l bh n h c p V (a + 2) (V a 1).toNat < V a 6
  · skip
    have e2 : (wR3 m l bh n h c p (pm_up (wC3 o a l bh n h c p V) o 11 0)) (a + 2) = wC3 o a l bh n h c p V (a + 2) := by simp (disch := omega) only [wR3, pm_up_row]
    refine ⟨wR3 m l bh n h c p (pm_up (wC3 o a l bh n h c p V) o 11 0), ?_, fun Y A => ⟨pm_up (wC3 o a l bh n h c p Y) o 11 0, ?_, AgC.skip (AgC.skip (AgC.skip (AgC.skip (AgC.skip (AgC.up (AgC.up (AgC.up (AgC.up (AgC.up (AgC.up (A))))))) (by omega)) (by omega)) (by omega)) (by omega)) (by omega), FrC.up (FrC.up (FrC.up (FrC.up (FrC.up (FrC.up (FrC.rfl) (by omega)) (by omega)) (by omega)) (by omega)) (by omega)) (by omega)⟩, fun Y A => ⟨wR3 m l bh n h c p Y, c_R_work3 L Y W (rw_ag A HR) (rf_ag A FR) hst heq, AgR.up (AgR.up (AgR.up (AgR.up (AgR.up (AgR.skip (AgR.skip (AgR.skip (AgR.skip (AgR.skip (AgR.skip (A) (by omega)) (by omega)) (by omega)) (by omega)) (by omega)) (by omega)))))), FrR.up (FrR.up (FrR.up (FrR.up (FrR.up (FrR.rfl) (by omega)) (by omega)) (by omega)) (by omega)) (by omega)⟩⟩
    · refine mid_step1 ho S M hl hm ea n h hst0 htk hdR ⟨c3, c4⟩ n1 n2 h2 h3 ?_ ?_ ?_ ?_ ?_ ?_ ?_ ?_ ?_ ?_ ?_ ?_ ?_ ?_ ?_ ?_ ?_ ?_ ?_ ?_ ?_ ?_
      · intro b b1 b2 b3 b4 b5 b6 b7
        exact (by (simp (disch := omega) only [wC3, wR3, pm_up_row, pm_up_ne, pm_up_same]) <;> omega)
      · intro q hq
        exact (by (simp (disch := omega) only [wC3, wR3, pm_up_row, pm_up_ne, pm_up_same]) <;> omega)
      · exact (by (simp (disch := omega) only [wC3, wR3, pm_up_row, pm_up_ne, pm_up_same]) <;> omega)
      · intro q hq hq2
        exact (by (simp (disch := omega) only [wC3, wR3, pm_up_row, pm_up_ne, pm_up_same]) <;> omega)
      · rw [e2, if_pos w]
        exact (by (simp (disch := omega) only [wC3, wR3, pm_up_row, pm_up_ne, pm_up_same]) <;> omega)
      · rw [e2, if_pos w]
        exact (by (simp (disch := omega) only [wC3, wR3, pm_up_row, pm_up_ne, pm_up_same]) <;> omega)
      · exact (by (simp (disch := omega) only [wC3, wR3, pm_up_row, pm_up_ne, pm_up_same]) <;> omega)
      · intro q hq
        exact (by (simp (disch := omega) only [wC3, wR3, pm_up_row, pm_up_ne, pm_up_same]) <;> omega)
      · exact (by (simp (disch := omega) only [wC3, wR3, pm_up_row, pm_up_ne, pm_up_same]) <;> omega)
      · intro q hq
        exact (by (simp (disch := omega) only [wC3, wR3, pm_up_row, pm_up_ne, pm_up_same]) <;> omega)
      · exact (by (simp (disch := omega) only [wC3, wR3, pm_up_row, pm_up_ne, pm_up_same]) <;> omega)
      · intro q hq
        exact (by (simp (disch := omega) only [wC3, wR3, pm_up_row, pm_up_ne, pm_up_same]) <;> omega)
      · exact (by (simp (disch := omega) only [wC3, wR3, pm_up_row, pm_up_ne, pm_up_same]) <;> omega)
      · exact (by (simp (disch := omega) only [wC3, wR3, pm_up_row, pm_up_ne, pm_up_same]) <;> omega)
      · exact (by (simp (disch := omega) only [wC3, wR3, pm_up_row, pm_up_ne, pm_up_same]) <;> omega)
      · exact (by (simp (disch := omega) only [wC3, wR3, pm_up_row, pm_up_ne, pm_up_same]) <;> omega)
      · exact (by (simp (disch := omega) only [wC3, wR3, pm_up_row, pm_up_ne, pm_up_same]) <;> omega)
      · exact (by (simp (disch := omega) only [wC3, wR3, pm_up_row, pm_up_ne, pm_up_same]) <;> omega)
      · exact (by (simp (disch := omega) only [wC3, wR3, pm_up_row, pm_up_ne, pm_up_same]) <;> omega)
      · exact (by (simp (disch := omega) only [wC3, wR3, pm_up_row, pm_up_ne, pm_up_same]) <;> omega)
      · exact (by (simp (disch := omega) only [wC3, wR3, pm_up_row, pm_up_ne, pm_up_same]) <;> omega)
      · intro q q1 q2 q3 q4 q5
        exact (by (simp (disch := omega) only [wC3, wR3, pm_up_row, pm_up_ne, pm_up_same]) <;> omega)
    · have hw := c_work3 ho m10 ea L Y W (cw_ag A (by omega) (by omega) H) (cf_ag A F) hst heq
      have AK : AgC o (wC3 o a l bh n h c p Y) (wC3 o a l bh n h c p V) := AgC.up (AgC.up (AgC.up (AgC.up (AgC.up (A)))))
      rw [AK (a + 2) (by omega) (by omega), A a (by omega) (by omega), A o (by omega) (by omega), if_pos w] at hw
      exact hw
  · skip
    have e2 : (wR3 m l bh n h c p (pm_up (pm_up (pm_up (wC3 o a l bh n h c p V) a 7 1) a 9 (V o 3)) o 11 0)) (a + 2) = wC3 o a l bh n h c p V (a + 2) := by simp (disch := omega) only [wR3, pm_up_row]
    refine ⟨wR3 m l bh n h c p (pm_up (pm_up (pm_up (wC3 o a l bh n h c p V) a 7 1) a 9 (V o 3)) o 11 0), ?_, fun Y A => ⟨pm_up (pm_up (pm_up (wC3 o a l bh n h c p Y) a 7 1) a 9 (V o 3)) o 11 0, ?_, AgC.skip (AgC.skip (AgC.skip (AgC.skip (AgC.skip (AgC.up (AgC.up (AgC.up (AgC.up (AgC.up (AgC.up (AgC.up (AgC.up (A))))))))) (by omega)) (by omega)) (by omega)) (by omega)) (by omega), FrC.up (FrC.up (FrC.up (FrC.up (FrC.up (FrC.up (FrC.up (FrC.up (FrC.rfl) (by omega)) (by omega)) (by omega)) (by omega)) (by omega)) (by omega)) (by omega)) (by omega)⟩, fun Y A => ⟨wR3 m l bh n h c p Y, c_R_work3 L Y W (rw_ag A HR) (rf_ag A FR) hst heq, AgR.up (AgR.up (AgR.up (AgR.up (AgR.up (AgR.skip (AgR.skip (AgR.skip (AgR.skip (AgR.skip (AgR.skip (AgR.skip (AgR.skip (A) (by omega)) (by omega)) (by omega)) (by omega)) (by omega)) (by omega)) (by omega)) (by omega)))))), FrR.up (FrR.up (FrR.up (FrR.up (FrR.up (FrR.rfl) (by omega)) (by omega)) (by omega)) (by omega)) (by omega)⟩⟩
    · refine mid_step1 ho S M hl hm ea n h hst0 htk hdR ⟨c3, c4⟩ n1 n2 h2 h3 ?_ ?_ ?_ ?_ ?_ ?_ ?_ ?_ ?_ ?_ ?_ ?_ ?_ ?_ ?_ ?_ ?_ ?_ ?_ ?_ ?_ ?_
      · intro b b1 b2 b3 b4 b5 b6 b7
        exact (by (simp (disch := omega) only [wC3, wR3, pm_up_row, pm_up_ne, pm_up_same]) <;> omega)
      · intro q hq
        exact (by (simp (disch := omega) only [wC3, wR3, pm_up_row, pm_up_ne, pm_up_same]) <;> omega)
      · exact (by (simp (disch := omega) only [wC3, wR3, pm_up_row, pm_up_ne, pm_up_same]) <;> omega)
      · intro q hq hq2
        exact (by (simp (disch := omega) only [wC3, wR3, pm_up_row, pm_up_ne, pm_up_same]) <;> omega)
      · rw [e2, if_neg w]
        exact (by (simp (disch := omega) only [wC3, wR3, pm_up_row, pm_up_ne, pm_up_same]) <;> omega)
      · rw [e2, if_neg w]
        exact (by (simp (disch := omega) only [wC3, wR3, pm_up_row, pm_up_ne, pm_up_same]) <;> omega)
      · exact (by (simp (disch := omega) only [wC3, wR3, pm_up_row, pm_up_ne, pm_up_same]) <;> omega)
      · intro q hq
        exact (by (simp (disch := omega) only [wC3, wR3, pm_up_row, pm_up_ne, pm_up_same]) <;> omega)
      · exact (by (simp (disch := omega) only [wC3, wR3, pm_up_row, pm_up_ne, pm_up_same]) <;> omega)
      · intro q hq
        exact (by (simp (disch := omega) only [wC3, wR3, pm_up_row, pm_up_ne, pm_up_same]) <;> omega)
      · exact (by (simp (disch := omega) only [wC3, wR3, pm_up_row, pm_up_ne, pm_up_same]) <;> omega)
      · intro q hq
        exact (by (simp (disch := omega) only [wC3, wR3, pm_up_row, pm_up_ne, pm_up_same]) <;> omega)
      · exact (by (simp (disch := omega) only [wC3, wR3, pm_up_row, pm_up_ne, pm_up_same]) <;> omega)
      · exact (by (simp (disch := omega) only [wC3, wR3, pm_up_row, pm_up_ne, pm_up_same]) <;> omega)
      · exact (by (simp (disch := omega) only [wC3, wR3, pm_up_row, pm_up_ne, pm_up_same]) <;> omega)
      · exact (by (simp (disch := omega) only [wC3, wR3, pm_up_row, pm_up_ne, pm_up_same]) <;> omega)
      · exact (by (simp (disch := omega) only [wC3, wR3, pm_up_row, pm_up_ne, pm_up_same]) <;> omega)
      · exact (by (simp (disch := omega) only [wC3, wR3, pm_up_row, pm_up_ne, pm_up_same]) <;> omega)
      · exact (by (simp (disch := omega) only [wC3, wR3, pm_up_row, pm_up_ne, pm_up_same]) <;> omega)
      · exact (by (simp (disch := omega) only [wC3, wR3, pm_up_row, pm_up_ne, pm_up_same]) <;> omega)
      · exact (by (simp (disch := omega) only [wC3, wR3, pm_up_row, pm_up_ne, pm_up_same]) <;> omega)
      · intro q q1 q2 q3 q4 q5
        exact (by (simp (disch := omega) only [wC3, wR3, pm_up_row, pm_up_ne, pm_up_same]) <;> omega)
    · have hw := c_work3 ho m10 ea L Y W (cw_ag A (by omega) (by omega) H) (cf_ag A F) hst heq
      have AK : AgC o (wC3 o a l bh n h c p Y) (wC3 o a l bh n h c p V) := AgC.up (AgC.up (AgC.up (AgC.up (AgC.up (A)))))
      rw [AK (a + 2) (by omega) (by omega), A a (by omega) (by omega), A o (by omega) (by omega), if_neg w] at hw
      exact hw

theorem jw {o l m a : Nat} {T : Int} {V0 V : Nat → Nat → Int} (ho : pm_isL o) (S : mst o T V0) (M : mid o l T V0 V) (hl : (l : Int) < V0 190 0 - 1) (hm : (m : Int) < V0 190 22) (ea : a = o + 9 + 6 + 5 * m) (hl14 : V0 (o + 14) l = (l : Int)) (htk : V0 (o + 14) (l + 1) = (l : Int)) (hcan : md_can V0 m l = true) (L : Nat) (W : Nat → Nat) : Jw o l a m T L W V0 V := by
  obtain ⟨bf, bh, n, s, st, h, c, e, p, er, f, H, F, HR, FR, hst0⟩ := work_vals ho S M hl hm ea hl14 hcan
  have hst := H.2.2.2.2.2.2.1
  rcases (show st = 0 ∨ st = 1 ∨ st = 2 ∨ st = 3 by omega) with q | q | q | q
  · exact jw0 ho S M hl hm ea H F HR FR L W q
  · exact jw1 ho S M hl hm ea H F HR FR L W q
  · by_cases k : (h + f) % 100 = s
    · exact jw3 ho S M hl hm ea H F HR FR L W q k hst0 htk
    · exact jw2 ho S M hl hm ea H F HR FR L W q k
  · exact jw4 ho S M hl hm ea H F HR FR L W q
theorem mid_blind {o l : Nat} {T : Int} {V0 V V1 : Nat → Nat → Int} (ho : pm_isL o) (S : mst o T V0) (M : mid o l T V0 V) (hl : (l : Int) < V0 190 0 - 1) (d : Int) (d0 : 0 ≤ d) (d1 : d ≤ 1) (R1 : ∀ b, b ≠ o + 10 + 55 + l → b ≠ 191 → V1 b = V b) (D0 : ∀ q, q ≠ 3 → V1 (o + 10 + 55 + l) q = V (o + 10 + 55 + l) q) (D3 : V1 (o + 10 + 55 + l) 3 = V (o + 10 + 55 + l) 3 + d) (E3 : V1 191 (271 + 4 * l + 3) = V 191 (271 + 4 * l + 3) + d) (E5 : ∀ q, q ≠ 271 + 4 * l + 3 → V1 191 q = V 191 q) : mid o (l + 1) T V0 V1 := by
  have hx : o = 46 ∨ o = 118 := ho
  obtain ⟨⟨s1, s2, s3, s4, s5, s6, s7, s8, s9, s10, s11, s12⟩, -⟩ := id S
  obtain ⟨⟨mr, ⟨mo, mo1, mo2⟩, mq, mlen⟩, mm, mu, mc, ms, ml⟩ := id M
  have v190 : V 190 = V0 190 := mr 190 (Or.inl rfl)
  have l7 : l < 7 := by omega
  have w190 : V1 190 = V 190 := R1 190 (by omega) (by omega)
  have w5 : V1 205 = V 205 := R1 205 (by omega) (by omega)
  have w6 : V1 206 = V 206 := R1 206 (by omega) (by omega)
  have w7 : V1 207 = V 207 := R1 207 (by omega) (by omega)
  have w8 : V1 208 = V 208 := R1 208 (by omega) (by omega)
  have wo : V1 o = V o := R1 o (by omega) (by omega)
  refine ⟨⟨?_, ⟨?_, ?_, ?_⟩, ?_, ?_⟩, ?_, ?_, ?_, ?_, ?_⟩
  · intro b hb
    rw [R1 b (by unfold md_row at hb; omega) (by unfold md_row at hb; omega)]
    exact mr b hb
  · rw [wo]; exact mo
  · rw [wo]; exact mo1
  · rw [wo]; exact mo2
  · intro q hq
    rw [E5 q (by omega)]
    exact mq q hq
  · rw [wo]
    intro h q h1 h2
    rw [E5 q (by omega)]
    exact mlen h q h1 h2
  · intro i hi
    refine lmm_congr (Nat.le_succ l) (mm i hi) ?_ ?_ ?_ ?_ ?_ (by rw [w190]) (by rw [v190]; omega) (by rw [wo]) (by rw [w5]) (by rw [w6]) (by rw [w7]) (by rw [w8]) ?_
    · exact R1 _ (by omega) (by omega)
    · exact R1 _ (by omega) (by omega)
    · exact R1 _ (by omega) (by omega)
    · exact R1 _ (by omega) (by omega)
    · exact R1 _ (by omega) (by omega)
    · intro q hq
      unfold s191 at hq
      exact E5 q (by omega)
  · intro i h1 h2
    rw [w190, v190] at h1
    have := mu i (by rw [v190]; exact h1) h2
    refine ⟨?_, ?_, fun t ht => ⟨?_, ?_, ?_⟩⟩
    · rw [E5 _ (by omega)]; exact this.1
    · rw [E5 _ (by omega)]; exact this.2.1
    · rw [E5 _ (by omega)]; exact (this.2.2 t ht).1
    · rw [E5 _ (by omega)]; exact (this.2.2 t ht).2.1
    · rw [E5 _ (by omega)]; exact (this.2.2 t ht).2.2
  · intro l' k hl' hk
    have := mc l' k hl' hk
    by_cases hll : l' = l
    · subst hll
      rw [if_neg (by omega)] at this
      rw [if_pos (by omega)]
      by_cases hk3 : k = 3
      · subst hk3
        rw [D3, E3]
        omega
      · rw [D0 k hk3, E5 _ (by omega)]
        omega
    · rw [R1 _ (by omega) (by omega), E5 _ (by omega)]
      refine ⟨this.1, this.2.1, ?_⟩
      have := this.2.2
      split at this <;> split <;> omega
  · intro t ht ht'
    rw [w190] at ht'
    rw [R1 _ (by omega) (by omega), E5 _ (by omega)]
    exact ms t ht ht'
  · intro i t hi ht hc
    rw [E5 _ (by omega)]
    exact ml i t hi ht (by omega)
theorem c_both {o l : Nat} (ho : pm_isL o) (L : Nat) (Z : Nat → Nat → Int) (W : Nat → Nat) (hl : l < 7) (r1 : pm_r (Z (o + 13) l)) (r2 : pm_r (Z (o + 13) (l + 1))) (r3 : pm_r (Z (o + 14) l)) (r4 : pm_r (Z (o + 14) (l + 1))) : pm_D (30, 0, [.ref o, .int (pm_J (l : Int))], [], pm_hp L Z W) = some (some (.int (pm_J (if Z (o + 14) l = (l : Int) ∧ Z (o + 14) (l + 1) = (l : Int) ∧ Z (o + 13) l = Z (o + 13) (l + 1) then 1 else 0))), pm_hp L Z W) := by
  obtain ⟨k1, k2, k3, k4, k5, k6, k7, k8, k9, k10, k11, k12, k13, k14, k15⟩ := pm_kdL ho
  have e : ((l : Int) + 1).toNat = l + 1 := by omega
  have l0 : (l : Int) < 7 := by omega
  have hlr : pm_r (l : Int) := by omega
  by_cases b1 : Z (o + 14) l = (l : Int)
  · by_cases b2 : Z (o + 14) (l + 1) = (l : Int)
    · by_cases b3 : Z (o + 13) l = Z (o + 13) (l + 1)
      · simp (disch := first | assumption | decide +kernel | omega | (split <;> omega)) only [q_30_0, q_30_1, q_30_4, q_30_5, q_30_6, q_30_7, q_30_10, q_30_11, q_30_14, q_30_15, q_30_16, q_30_17, q_30_18, q_30_19, q_30_22, q_30_23, q_30_26, q_30_27, q_30_28, q_30_29, q_30_32, q_30_33, q_30_34, q_30_35, q_30_36, q_30_39, q_30_40, q_30_43, q_30_44, pm_some, Option.toList_some, Option.toList_none, List.cons_append, List.nil_append, pm_i0, pm_i1, Nat.reduceAdd, Nat.reduceMul, Int.toNat_natCast, Int.toNat_zero, e, b1, b2, b3, not_true_eq_false, not_false_eq_true, and_self, true_and, and_true, ↓reduceIte, Int.reduceEq, Int.reduceLT, Int.reduceLE, Int.reduceNeg, Bool.false_eq_true]
      · simp (disch := first | assumption | decide +kernel | omega | (split <;> omega)) only [q_30_0, q_30_1, q_30_4, q_30_5, q_30_6, q_30_7, q_30_10, q_30_11, q_30_14, q_30_15, q_30_16, q_30_17, q_30_18, q_30_19, q_30_22, q_30_23, q_30_26, q_30_27, q_30_28, q_30_29, q_30_32, q_30_33, q_30_34, q_30_35, q_30_36, q_30_39, q_30_40, q_30_43, q_30_44, pm_some, Option.toList_some, Option.toList_none, List.cons_append, List.nil_append, pm_i0, pm_i1, Nat.reduceAdd, Nat.reduceMul, Int.toNat_natCast, Int.toNat_zero, e, b1, b2, b3, not_true_eq_false, not_false_eq_true, and_self, true_and, and_true, ↓reduceIte, Int.reduceEq, Int.reduceLT, Int.reduceLE, Int.reduceNeg, Bool.false_eq_true]
    · simp (disch := first | assumption | decide +kernel | omega | (split <;> omega)) only [q_30_0, q_30_1, q_30_4, q_30_5, q_30_6, q_30_7, q_30_10, q_30_11, q_30_14, q_30_15, q_30_16, q_30_17, q_30_18, q_30_19, q_30_22, q_30_23, q_30_26, q_30_27, q_30_28, q_30_29, q_30_32, q_30_33, q_30_34, q_30_35, q_30_36, q_30_39, q_30_40, q_30_43, q_30_44, pm_some, Option.toList_some, Option.toList_none, List.cons_append, List.nil_append, pm_i0, pm_i1, Nat.reduceAdd, Nat.reduceMul, Int.toNat_natCast, Int.toNat_zero, e, b1, b2, not_true_eq_false, not_false_eq_true, and_self, true_and, and_true, ↓reduceIte, Int.reduceEq, Int.reduceLT, Int.reduceLE, Int.reduceNeg, Bool.false_eq_true, false_and]
  · simp (disch := first | assumption | decide +kernel | omega | (split <;> omega)) only [q_30_0, q_30_1, q_30_4, q_30_5, q_30_6, q_30_7, q_30_10, q_30_11, q_30_14, q_30_15, q_30_16, q_30_17, q_30_18, q_30_19, q_30_22, q_30_23, q_30_26, q_30_27, q_30_28, q_30_29, q_30_32, q_30_33, q_30_34, q_30_35, q_30_36, q_30_39, q_30_40, q_30_43, q_30_44, pm_some, Option.toList_some, Option.toList_none, List.cons_append, List.nil_append, pm_i0, pm_i1, Nat.reduceAdd, Nat.reduceMul, Int.toNat_natCast, Int.toNat_zero, e, b1, not_true_eq_false, not_false_eq_true, and_self, true_and, and_true, ↓reduceIte, Int.reduceEq, Int.reduceLT, Int.reduceLE, Int.reduceNeg, Bool.false_eq_true, false_and]
theorem r_both {l : Nat} (x : Int) (v3 : Value) (L : Nat) (Z : Nat → Nat → Int) (W : Nat → Nat) (hl : l < 7) (r1 : pm_r (Z 210 l)) (r2 : pm_r (Z 210 (l + 1))) (r3 : 0 ≤ Z 210 l → pm_r (Z 211 l)) (r4 : 0 ≤ Z 210 (l + 1) → pm_r (Z 211 (l + 1))) : pm_D (157, 90, [.ref 190, .int (pm_J (l : Int)), .int (pm_J x), v3], [], pm_hp L Z W) = pm_D (157, 143, [.ref 190, .int (pm_J (l : Int)), .int (pm_J x), v3], [.int (pm_J (if 0 ≤ Z 210 l ∧ Z 210 l = Z 210 (l + 1) ∧ Z 211 l = (l : Int) ∧ Z 211 (l + 1) = (l : Int) then 1 else 0))], pm_hp L Z W) := by
  have e : ((l : Int) + 1).toNat = l + 1 := by omega
  have l0 : (l : Int) < 7 := by omega
  have hlr : pm_r (l : Int) := by omega
  by_cases b0 : Z 210 l < 0
  · have b0' : ¬ 0 ≤ Z 210 l := by omega
    simp (disch := first | assumption | decide +kernel | omega | (split <;> omega)) only [q_157_0, q_157_1, q_157_4, q_157_5, q_157_6, q_157_7, q_157_8, q_157_11, q_157_14, q_157_15, q_157_18, q_157_21, q_157_22, q_157_23, q_157_24, q_157_25, q_157_28, q_157_31, q_157_32, q_157_33, q_157_34, q_157_35, q_157_38, q_157_39, q_157_40, q_157_43, q_157_44, q_157_47, q_157_50, q_157_51, q_157_52, q_157_55, q_157_58, q_157_59, q_157_62, q_157_63, q_157_64, q_157_65, q_157_68, q_157_71, q_157_72, q_157_73, q_157_74, q_157_75, q_157_76, q_157_77, q_157_78, q_157_79, q_157_80, q_157_83, q_157_84, q_157_87, q_157_88, q_157_89, q_157_90, q_157_91, q_157_94, q_157_95, q_157_96, q_157_99, q_157_100, q_157_103, q_157_104, q_157_105, q_157_106, q_157_109, q_157_110, q_157_111, q_157_112, q_157_113, q_157_116, q_157_117, q_157_120, q_157_121, q_157_122, q_157_123, q_157_126, q_157_127, q_157_130, q_157_131, q_157_132, q_157_133, q_157_134, q_157_135, q_157_138, q_157_139, q_157_142, q_157_144, q_157_145, q_157_148, q_157_149, q_157_152, q_157_153, q_157_154, q_157_157, q_157_158, q_157_159, q_157_160, q_157_163, q_157_166, q_157_169, q_157_170, q_157_173, q_157_174, q_157_175, q_157_176, q_157_177, q_157_178, q_157_179, q_157_180, q_157_181, q_157_182, q_157_183, q_157_186, q_157_189, q_157_190, q_157_191, q_157_194, q_157_197, q_157_198, q_157_199, q_157_200, q_157_203, q_157_204, q_157_205, q_157_208, q_157_209, q_157_210, q_157_211, q_157_214, q_157_215, q_157_216, q_157_219, q_157_222, q_157_223, q_157_226, q_157_227, q_157_228, q_157_229, q_157_230, q_157_231, q_157_232, q_157_235, q_157_237, q_157_238, q_157_239, q_157_240, q_157_243, q_157_244, q_157_245, q_157_246, q_157_249, q_157_252, pm_some, Option.toList_some, Option.toList_none, List.cons_append, List.nil_append, pm_i0, pm_i1, Nat.reduceAdd, Nat.reduceMul, Int.toNat_natCast, Int.toNat_zero, b0, b0', not_true_eq_false, not_false_eq_true, and_self, true_and, and_true, ↓reduceIte, Int.reduceEq, Int.reduceLT, Int.reduceLE, Int.reduceNeg, Bool.false_eq_true, false_and]
  · have b0' : 0 ≤ Z 210 l := by omega
    have q3 := r3 b0'
    by_cases b1 : Z 210 l = Z 210 (l + 1)
    · have q4 := r4 (by omega)
      by_cases b2 : Z 211 l = (l : Int)
      · by_cases b3 : Z 211 (l + 1) = (l : Int)
        · have c0 : ¬ Z 210 (l + 1) < 0 := by omega
          have c0' : 0 ≤ Z 210 (l + 1) := by omega
          simp (disch := first | assumption | decide +kernel | omega | (split <;> omega)) only [q_157_0, q_157_1, q_157_4, q_157_5, q_157_6, q_157_7, q_157_8, q_157_11, q_157_14, q_157_15, q_157_18, q_157_21, q_157_22, q_157_23, q_157_24, q_157_25, q_157_28, q_157_31, q_157_32, q_157_33, q_157_34, q_157_35, q_157_38, q_157_39, q_157_40, q_157_43, q_157_44, q_157_47, q_157_50, q_157_51, q_157_52, q_157_55, q_157_58, q_157_59, q_157_62, q_157_63, q_157_64, q_157_65, q_157_68, q_157_71, q_157_72, q_157_73, q_157_74, q_157_75, q_157_76, q_157_77, q_157_78, q_157_79, q_157_80, q_157_83, q_157_84, q_157_87, q_157_88, q_157_89, q_157_90, q_157_91, q_157_94, q_157_95, q_157_96, q_157_99, q_157_100, q_157_103, q_157_104, q_157_105, q_157_106, q_157_109, q_157_110, q_157_111, q_157_112, q_157_113, q_157_116, q_157_117, q_157_120, q_157_121, q_157_122, q_157_123, q_157_126, q_157_127, q_157_130, q_157_131, q_157_132, q_157_133, q_157_134, q_157_135, q_157_138, q_157_139, q_157_142, q_157_144, q_157_145, q_157_148, q_157_149, q_157_152, q_157_153, q_157_154, q_157_157, q_157_158, q_157_159, q_157_160, q_157_163, q_157_166, q_157_169, q_157_170, q_157_173, q_157_174, q_157_175, q_157_176, q_157_177, q_157_178, q_157_179, q_157_180, q_157_181, q_157_182, q_157_183, q_157_186, q_157_189, q_157_190, q_157_191, q_157_194, q_157_197, q_157_198, q_157_199, q_157_200, q_157_203, q_157_204, q_157_205, q_157_208, q_157_209, q_157_210, q_157_211, q_157_214, q_157_215, q_157_216, q_157_219, q_157_222, q_157_223, q_157_226, q_157_227, q_157_228, q_157_229, q_157_230, q_157_231, q_157_232, q_157_235, q_157_237, q_157_238, q_157_239, q_157_240, q_157_243, q_157_244, q_157_245, q_157_246, q_157_249, q_157_252, pm_some, Option.toList_some, Option.toList_none, List.cons_append, List.nil_append, pm_i0, pm_i1, Nat.reduceAdd, Nat.reduceMul, Int.toNat_natCast, Int.toNat_zero, e, b1, c0, c0', b2, b3, not_true_eq_false, not_false_eq_true, and_self, true_and, and_true, ↓reduceIte, Int.reduceEq, Int.reduceLT, Int.reduceLE, Int.reduceNeg, Bool.false_eq_true]
        · have c0 : ¬ Z 210 (l + 1) < 0 := by omega
          have c0' : 0 ≤ Z 210 (l + 1) := by omega
          simp (disch := first | assumption | decide +kernel | omega | (split <;> omega)) only [q_157_0, q_157_1, q_157_4, q_157_5, q_157_6, q_157_7, q_157_8, q_157_11, q_157_14, q_157_15, q_157_18, q_157_21, q_157_22, q_157_23, q_157_24, q_157_25, q_157_28, q_157_31, q_157_32, q_157_33, q_157_34, q_157_35, q_157_38, q_157_39, q_157_40, q_157_43, q_157_44, q_157_47, q_157_50, q_157_51, q_157_52, q_157_55, q_157_58, q_157_59, q_157_62, q_157_63, q_157_64, q_157_65, q_157_68, q_157_71, q_157_72, q_157_73, q_157_74, q_157_75, q_157_76, q_157_77, q_157_78, q_157_79, q_157_80, q_157_83, q_157_84, q_157_87, q_157_88, q_157_89, q_157_90, q_157_91, q_157_94, q_157_95, q_157_96, q_157_99, q_157_100, q_157_103, q_157_104, q_157_105, q_157_106, q_157_109, q_157_110, q_157_111, q_157_112, q_157_113, q_157_116, q_157_117, q_157_120, q_157_121, q_157_122, q_157_123, q_157_126, q_157_127, q_157_130, q_157_131, q_157_132, q_157_133, q_157_134, q_157_135, q_157_138, q_157_139, q_157_142, q_157_144, q_157_145, q_157_148, q_157_149, q_157_152, q_157_153, q_157_154, q_157_157, q_157_158, q_157_159, q_157_160, q_157_163, q_157_166, q_157_169, q_157_170, q_157_173, q_157_174, q_157_175, q_157_176, q_157_177, q_157_178, q_157_179, q_157_180, q_157_181, q_157_182, q_157_183, q_157_186, q_157_189, q_157_190, q_157_191, q_157_194, q_157_197, q_157_198, q_157_199, q_157_200, q_157_203, q_157_204, q_157_205, q_157_208, q_157_209, q_157_210, q_157_211, q_157_214, q_157_215, q_157_216, q_157_219, q_157_222, q_157_223, q_157_226, q_157_227, q_157_228, q_157_229, q_157_230, q_157_231, q_157_232, q_157_235, q_157_237, q_157_238, q_157_239, q_157_240, q_157_243, q_157_244, q_157_245, q_157_246, q_157_249, q_157_252, pm_some, Option.toList_some, Option.toList_none, List.cons_append, List.nil_append, pm_i0, pm_i1, Nat.reduceAdd, Nat.reduceMul, Int.toNat_natCast, Int.toNat_zero, e, b1, c0, c0', b2, b3, not_true_eq_false, not_false_eq_true, and_self, true_and, and_true, ↓reduceIte, Int.reduceEq, Int.reduceLT, Int.reduceLE, Int.reduceNeg, Bool.false_eq_true]
      · have c0 : ¬ Z 210 (l + 1) < 0 := by omega
        have c0' : 0 ≤ Z 210 (l + 1) := by omega
        simp (disch := first | assumption | decide +kernel | omega | (split <;> omega)) only [q_157_0, q_157_1, q_157_4, q_157_5, q_157_6, q_157_7, q_157_8, q_157_11, q_157_14, q_157_15, q_157_18, q_157_21, q_157_22, q_157_23, q_157_24, q_157_25, q_157_28, q_157_31, q_157_32, q_157_33, q_157_34, q_157_35, q_157_38, q_157_39, q_157_40, q_157_43, q_157_44, q_157_47, q_157_50, q_157_51, q_157_52, q_157_55, q_157_58, q_157_59, q_157_62, q_157_63, q_157_64, q_157_65, q_157_68, q_157_71, q_157_72, q_157_73, q_157_74, q_157_75, q_157_76, q_157_77, q_157_78, q_157_79, q_157_80, q_157_83, q_157_84, q_157_87, q_157_88, q_157_89, q_157_90, q_157_91, q_157_94, q_157_95, q_157_96, q_157_99, q_157_100, q_157_103, q_157_104, q_157_105, q_157_106, q_157_109, q_157_110, q_157_111, q_157_112, q_157_113, q_157_116, q_157_117, q_157_120, q_157_121, q_157_122, q_157_123, q_157_126, q_157_127, q_157_130, q_157_131, q_157_132, q_157_133, q_157_134, q_157_135, q_157_138, q_157_139, q_157_142, q_157_144, q_157_145, q_157_148, q_157_149, q_157_152, q_157_153, q_157_154, q_157_157, q_157_158, q_157_159, q_157_160, q_157_163, q_157_166, q_157_169, q_157_170, q_157_173, q_157_174, q_157_175, q_157_176, q_157_177, q_157_178, q_157_179, q_157_180, q_157_181, q_157_182, q_157_183, q_157_186, q_157_189, q_157_190, q_157_191, q_157_194, q_157_197, q_157_198, q_157_199, q_157_200, q_157_203, q_157_204, q_157_205, q_157_208, q_157_209, q_157_210, q_157_211, q_157_214, q_157_215, q_157_216, q_157_219, q_157_222, q_157_223, q_157_226, q_157_227, q_157_228, q_157_229, q_157_230, q_157_231, q_157_232, q_157_235, q_157_237, q_157_238, q_157_239, q_157_240, q_157_243, q_157_244, q_157_245, q_157_246, q_157_249, q_157_252, pm_some, Option.toList_some, Option.toList_none, List.cons_append, List.nil_append, pm_i0, pm_i1, Nat.reduceAdd, Nat.reduceMul, Int.toNat_natCast, Int.toNat_zero, e, b1, c0, c0', b2, not_true_eq_false, not_false_eq_true, and_self, true_and, and_true, ↓reduceIte, Int.reduceEq, Int.reduceLT, Int.reduceLE, Int.reduceNeg, Bool.false_eq_true, false_and]
    · simp (disch := first | assumption | decide +kernel | omega | (split <;> omega)) only [q_157_0, q_157_1, q_157_4, q_157_5, q_157_6, q_157_7, q_157_8, q_157_11, q_157_14, q_157_15, q_157_18, q_157_21, q_157_22, q_157_23, q_157_24, q_157_25, q_157_28, q_157_31, q_157_32, q_157_33, q_157_34, q_157_35, q_157_38, q_157_39, q_157_40, q_157_43, q_157_44, q_157_47, q_157_50, q_157_51, q_157_52, q_157_55, q_157_58, q_157_59, q_157_62, q_157_63, q_157_64, q_157_65, q_157_68, q_157_71, q_157_72, q_157_73, q_157_74, q_157_75, q_157_76, q_157_77, q_157_78, q_157_79, q_157_80, q_157_83, q_157_84, q_157_87, q_157_88, q_157_89, q_157_90, q_157_91, q_157_94, q_157_95, q_157_96, q_157_99, q_157_100, q_157_103, q_157_104, q_157_105, q_157_106, q_157_109, q_157_110, q_157_111, q_157_112, q_157_113, q_157_116, q_157_117, q_157_120, q_157_121, q_157_122, q_157_123, q_157_126, q_157_127, q_157_130, q_157_131, q_157_132, q_157_133, q_157_134, q_157_135, q_157_138, q_157_139, q_157_142, q_157_144, q_157_145, q_157_148, q_157_149, q_157_152, q_157_153, q_157_154, q_157_157, q_157_158, q_157_159, q_157_160, q_157_163, q_157_166, q_157_169, q_157_170, q_157_173, q_157_174, q_157_175, q_157_176, q_157_177, q_157_178, q_157_179, q_157_180, q_157_181, q_157_182, q_157_183, q_157_186, q_157_189, q_157_190, q_157_191, q_157_194, q_157_197, q_157_198, q_157_199, q_157_200, q_157_203, q_157_204, q_157_205, q_157_208, q_157_209, q_157_210, q_157_211, q_157_214, q_157_215, q_157_216, q_157_219, q_157_222, q_157_223, q_157_226, q_157_227, q_157_228, q_157_229, q_157_230, q_157_231, q_157_232, q_157_235, q_157_237, q_157_238, q_157_239, q_157_240, q_157_243, q_157_244, q_157_245, q_157_246, q_157_249, q_157_252, pm_some, Option.toList_some, Option.toList_none, List.cons_append, List.nil_append, pm_i0, pm_i1, Nat.reduceAdd, Nat.reduceMul, Int.toNat_natCast, Int.toNat_zero, e, b0, b0', b1, not_true_eq_false, not_false_eq_true, and_self, true_and, and_true, ↓reduceIte, Int.reduceEq, Int.reduceLT, Int.reduceLE, Int.reduceNeg, Bool.false_eq_true, false_and]
theorem md_lk_r {i : Nat} {Z : Nat → Nat → Int} (t : Int) : md_lk Z i t = t ∨ md_lk Z i t = t - 1 ∨ md_lk Z i t = -6 := by
  unfold md_lk
  repeat' split
  all_goals first | exact Or.inl rfl | exact Or.inr (Or.inl rfl) | exact Or.inr (Or.inr rfl)
/-- both sides do one link -/
theorem link_step {o l : Nat} {T : Int} {V0 V : Nat → Nat → Int} (ho : pm_isL o) (S : mst o T V0) (M : mid o l T V0 V) (hl : (l : Int) < V0 190 0 - 1) (L : Nat) (W : Nat → Nat) : ∃ V1, mid o (l + 1) T V0 V1 ∧ (∀ Y, AgC o Y V → ∃ Y', pm_D (28, 35, [.ref o, .int (pm_J (l : Int))], [], pm_hp L Y W) = pm_D (28, 35, [.ref o, .int (pm_J ((l : Int) + 1))], [], pm_hp L Y' W) ∧ AgC o Y' V1 ∧ FrC o Y Y') ∧ (∀ Y v2 v3, AgR Y V → ∃ Y' w2 w3, pm_D (157, 33, [.ref 190, .int (pm_J (l : Int)), v2, v3], [], pm_hp L Y W) = pm_D (157, 33, [.ref 190, .int (pm_J ((l : Int) + 1)), w2, w3], [], pm_hp L Y' W) ∧ AgR Y' V1 ∧ FrR Y Y') := by
  have hx : o = 46 ∨ o = 118 := ho
  obtain ⟨k1, k2, k3, k4, k5, k6, k7, k8, k9, k10, k11, k12, k13, k14, k15⟩ := pm_kdL ho
  obtain ⟨⟨s1, s2, s3, s4, s5, s6, s7, s8, s9, s10, s11, s12⟩, ⟨⟨w1, w2, w3, w4, w5, w6⟩, ⟨w7, w8, w9⟩, w10⟩, -, hbl, hpk⟩ := id S
  obtain ⟨⟨mr, ⟨mo, mo1, mo2⟩, mq, mlen⟩, mm, mu, mc, ms, ml⟩ := id M
  have v190 : V 190 = V0 190 := mr 190 (Or.inl rfl)
  have v12 : V (o + 12) = V0 (o + 12) := mr _ (by unfold md_row; omega)
  have v13 : V (o + 13) = V0 (o + 13) := mr _ (by unfold md_row; omega)
  have v14 : V (o + 14) = V0 (o + 14) := mr _ (by unfold md_row; omega)
  have v210 : V 210 = V0 210 := mr _ (by unfold md_row; omega)
  have v211 : V 211 = V0 211 := mr _ (by unfold md_row; omega)
  have v193 : V 193 = V0 193 := mr _ (by unfold md_row; omega)
  have v194 : V 194 = V0 194 := mr _ (by unfold md_row; omega)
  have v195 : V 195 = V0 195 := mr _ (by unfold md_row; omega)
  have vt : V 191 0 = V0 191 0 := mq 0 (by omega)
  have vo2 : V o 2 = V0 190 0 := by rw [mo 2 (by omega)]; exact s1
  have l7 : l < 7 := by omega
  have l0 : (l : Int) < 7 := by omega
  have kc : pm_kd (o + 10 + 55 + l) = 3 := pm_kdC ho l7
  have hc3 := mc l 3 l7 (by omega)
  rw [if_neg (Nat.lt_irrefl l)] at hc3
  have hb := hbl l l7
  have hbr := md_bl_r (V0 193) (V0 194) (V0 195) (V0 191 0) l (V0 190 5).toNat 0 (if V0 190 2 ≤ V0 191 0 % V0 190 1 then 1 else 0) (by split <;> omega) (by split <;> omega)
  rw [← hb] at hbr
  -- the model's word of blindness
  have hRb : ∀ Y, AgR Y V → pm_D (114, 0, [.ref 190, .int (pm_J (l : Int)), .null, .null], [], pm_hp L Y W) = some (some (.int (pm_J (V0 (o + 12) l))), pm_hp L Y W) := fun Y A => by
    have y190 : Y 190 = V0 190 := (A 190 (by omega) (by omega)).trans v190
    have y191 : Y 191 0 = V0 191 0 := by rw [A 191 (by omega) (by omega)]; exact vt
    have y193 : Y 193 = V0 193 := (A 193 (by omega) (by omega)).trans v193
    have y194 : Y 194 = V0 194 := (A 194 (by omega) (by omega)).trans v194
    have y195 : Y 195 = V0 195 := (A 195 (by omega) (by omega)).trans v195
    have h := c_R_blind (l : Int) L Y W (by omega) (by rw [y191]; exact s5) (by rw [y191]; omega) (by rw [y190]; omega) (by rw [y190]; omega) (by rw [y190]; omega) (by rw [y190]; omega) (by rw [y190]; omega) (by rw [y190]; omega) (fun i hi => by
      rw [y190] at hi
      rw [y193, y194, y195]
      have := w10 i hi
      omega)
    rw [y190, y191, y193, y194, y195, ← hb] at h
    exact h
  have hq3 : (271 + 4 * (l : Int) + 3).toNat = 271 + 4 * l + 3 := by omega
  have hRp : ∀ Y v2 v3, AgR Y V → pm_D (157, 33, [.ref 190, .int (pm_J (l : Int)), v2, v3], [], pm_hp L Y W) = pm_D (157, 90, [.ref 190, .int (pm_J (l : Int)), .int (pm_J (V0 (o + 12) l)), v3], [], pm_hp L (pm_up Y 191 (271 + 4 * l + 3) (V 191 (271 + 4 * l + 3) + V0 (o + 12) l)) W) := fun Y v2 v3 A => by
    have y190 : Y 190 = V0 190 := (A 190 (by omega) (by omega)).trans v190
    have y0 : Y 190 0 = V0 190 0 := by rw [y190]
    have y29 : Y 190 29 = -1 := by rw [y190]; exact s10
    have y3 : Y 191 (271 + 4 * l + 3) = V 191 (271 + 4 * l + 3) := by rw [A 191 (by omega) (by omega)]
    have hRb' := hRb Y A
    rw [q_157_33]
    rcases (show V0 (o + 12) l = 0 ∨ V0 (o + 12) l = 1 by omega) with b | b
    · rw [b] at hRb'
      simp (disch := first | assumption | decide +kernel | omega | (split <;> omega)) only [q_157_0, q_157_1, q_157_4, q_157_5, q_157_6, q_157_7, q_157_8, q_157_11, q_157_14, q_157_15, q_157_18, q_157_21, q_157_22, q_157_23, q_157_24, q_157_25, q_157_28, q_157_31, q_157_32, q_157_34, q_157_35, q_157_38, q_157_39, q_157_40, q_157_43, q_157_44, q_157_47, q_157_50, q_157_51, q_157_52, q_157_55, q_157_58, q_157_59, q_157_62, q_157_63, q_157_64, q_157_65, q_157_68, q_157_71, q_157_72, q_157_73, q_157_74, q_157_75, q_157_76, q_157_77, q_157_78, q_157_79, q_157_80, q_157_83, q_157_84, q_157_87, q_157_88, q_157_89, q_157_91, q_157_94, q_157_95, q_157_96, q_157_99, q_157_100, q_157_103, q_157_104, q_157_105, q_157_106, q_157_109, q_157_110, q_157_111, q_157_112, q_157_113, q_157_116, q_157_117, q_157_120, q_157_121, q_157_122, q_157_123, q_157_126, q_157_127, q_157_130, q_157_131, q_157_132, q_157_133, q_157_134, q_157_135, q_157_138, q_157_139, q_157_142, q_157_143, q_157_144, q_157_145, q_157_148, q_157_149, q_157_152, q_157_153, q_157_154, q_157_157, q_157_158, q_157_159, q_157_160, q_157_163, q_157_166, q_157_169, q_157_170, q_157_173, q_157_174, q_157_175, q_157_176, q_157_177, q_157_178, q_157_179, q_157_180, q_157_181, q_157_182, q_157_183, q_157_186, q_157_189, q_157_190, q_157_191, q_157_194, q_157_197, q_157_198, q_157_199, q_157_200, q_157_203, q_157_204, q_157_205, q_157_208, q_157_209, q_157_210, q_157_211, q_157_214, q_157_215, q_157_216, q_157_219, q_157_222, q_157_223, q_157_226, q_157_227, q_157_228, q_157_229, q_157_230, q_157_231, q_157_232, q_157_235, q_157_237, q_157_238, q_157_239, q_157_240, q_157_243, q_157_244, q_157_245, q_157_246, q_157_249, q_157_252, pm_some, Option.toList_some, Option.toList_none, List.cons_append, List.nil_append, pm_i0, pm_i1, Nat.reduceAdd, Nat.reduceMul, Int.toNat_natCast, Int.toNat_zero, y0, y29, hl, hRb', hq3, y3, b, not_true_eq_false, not_false_eq_true, and_self, true_and, and_true, ↓reduceIte, Int.reduceEq, Int.reduceLT, Int.reduceLE, Int.reduceNeg, Bool.false_eq_true]
    · rw [b] at hRb'
      simp (disch := first | assumption | decide +kernel | omega | (split <;> omega)) only [q_157_0, q_157_1, q_157_4, q_157_5, q_157_6, q_157_7, q_157_8, q_157_11, q_157_14, q_157_15, q_157_18, q_157_21, q_157_22, q_157_23, q_157_24, q_157_25, q_157_28, q_157_31, q_157_32, q_157_34, q_157_35, q_157_38, q_157_39, q_157_40, q_157_43, q_157_44, q_157_47, q_157_50, q_157_51, q_157_52, q_157_55, q_157_58, q_157_59, q_157_62, q_157_63, q_157_64, q_157_65, q_157_68, q_157_71, q_157_72, q_157_73, q_157_74, q_157_75, q_157_76, q_157_77, q_157_78, q_157_79, q_157_80, q_157_83, q_157_84, q_157_87, q_157_88, q_157_89, q_157_91, q_157_94, q_157_95, q_157_96, q_157_99, q_157_100, q_157_103, q_157_104, q_157_105, q_157_106, q_157_109, q_157_110, q_157_111, q_157_112, q_157_113, q_157_116, q_157_117, q_157_120, q_157_121, q_157_122, q_157_123, q_157_126, q_157_127, q_157_130, q_157_131, q_157_132, q_157_133, q_157_134, q_157_135, q_157_138, q_157_139, q_157_142, q_157_143, q_157_144, q_157_145, q_157_148, q_157_149, q_157_152, q_157_153, q_157_154, q_157_157, q_157_158, q_157_159, q_157_160, q_157_163, q_157_166, q_157_169, q_157_170, q_157_173, q_157_174, q_157_175, q_157_176, q_157_177, q_157_178, q_157_179, q_157_180, q_157_181, q_157_182, q_157_183, q_157_186, q_157_189, q_157_190, q_157_191, q_157_194, q_157_197, q_157_198, q_157_199, q_157_200, q_157_203, q_157_204, q_157_205, q_157_208, q_157_209, q_157_210, q_157_211, q_157_214, q_157_215, q_157_216, q_157_219, q_157_222, q_157_223, q_157_226, q_157_227, q_157_228, q_157_229, q_157_230, q_157_231, q_157_232, q_157_235, q_157_237, q_157_238, q_157_239, q_157_240, q_157_243, q_157_244, q_157_245, q_157_246, q_157_249, q_157_252, pm_some, Option.toList_some, Option.toList_none, List.cons_append, List.nil_append, pm_i0, pm_i1, Nat.reduceAdd, Nat.reduceMul, Int.toNat_natCast, Int.toNat_zero, y0, y29, hl, hRb', hq3, y3, b, not_true_eq_false, not_false_eq_true, and_self, true_and, and_true, ↓reduceIte, Int.reduceEq, Int.reduceLT, Int.reduceLE, Int.reduceNeg, Bool.false_eq_true]
  -- the picks
  obtain ⟨⟨pa1, pa2⟩, pa3, pa4⟩ := hpk l (by omega)
  obtain ⟨⟨pb1, pb2⟩, pb3, pb4⟩ := hpk (l + 1) (by omega)
  have spa := md_pick_spec V0 (l : Int) (V0 190 22).toNat
  have spb := md_pick_spec V0 ((l + 1 : Nat) : Int) (V0 190 22).toNat
  have hA : (V0 (o + 13) l = -6 ∧ V0 (o + 14) l = -6 ∧ V0 210 l = -1) ∨ (∃ m : Nat, (m : Int) < V0 190 22 ∧ V0 (o + 13) l = m ∧ V0 (o + 14) l = md_lk V0 m l ∧ V0 210 l = m ∧ V0 211 l = V0 (o + 14) l ∧ md_lk V0 m l ≠ -6) := by
    rcases spa with h | ⟨m, h1, h2, h3⟩
    · rw [h] at pa1 pa2 pa3
      exact Or.inl ⟨pa1, pa2, pa3⟩
    · rw [h2] at pa1 pa2 pa3 pa4
      have q : ¬ ((m : Int), md_lk V0 m (l : Int)).1 < 0 := by
        show ¬ (m : Int) < 0
        omega
      rw [if_neg q] at pa3
      exact Or.inr ⟨m, by omega, pa1, pa2, pa3, (pa4 (by omega)).trans pa2.symm, h3⟩
  have hB : (V0 (o + 13) (l + 1) = -6 ∧ V0 (o + 14) (l + 1) = -6 ∧ V0 210 (l + 1) = -1) ∨ (∃ m : Nat, (m : Int) < V0 190 22 ∧ V0 (o + 13) (l + 1) = m ∧ V0 (o + 14) (l + 1) = md_lk V0 m ((l + 1 : Nat) : Int) ∧ V0 210 (l + 1) = m ∧ V0 211 (l + 1) = V0 (o + 14) (l + 1)) := by
    rcases spb with h | ⟨m, h1, h2, h3⟩
    · rw [h] at pb1 pb2 pb3
      exact Or.inl ⟨pb1, pb2, pb3⟩
    · rw [h2] at pb1 pb2 pb3 pb4
      have q : ¬ ((m : Int), md_lk V0 m ((l + 1 : Nat) : Int)).1 < 0 := by
        show ¬ (m : Int) < 0
        omega
      rw [if_neg q] at pb3
      exact Or.inr ⟨m, by omega, pb1, pb2, pb3, (pb4 (by omega)).trans pb2.symm⟩
  clear spa spb pa1 pa2 pa3 pa4 pb1 pb2 pb3 pb4
  have rA : pm_r (V0 (o + 13) l) ∧ pm_r (V0 (o + 14) l) ∧ pm_r (V0 210 l) ∧ (0 ≤ V0 210 l → pm_r (V0 211 l)) := by
    rcases hA with ⟨h1, h2, h3⟩ | ⟨m, h0, h1, h2, h3, h4, h5⟩
    · rw [h1, h2, h3]
      exact ⟨by decide, by decide, by decide, fun q => absurd q (by decide)⟩
    · have := md_lk_r (i := m) (Z := V0) (l : Int)
      omega
  have rB : pm_r (V0 (o + 13) (l + 1)) ∧ pm_r (V0 (o + 14) (l + 1)) ∧ pm_r (V0 210 (l + 1)) ∧ (0 ≤ V0 210 (l + 1) → pm_r (V0 211 (l + 1))) := by
    rcases hB with ⟨h1, h2, h3⟩ | ⟨m, h0, h1, h2, h3, h4⟩
    · rw [h1, h2, h3]
      exact ⟨by decide, by decide, by decide, fun q => absurd q (by decide)⟩
    · have := md_lk_r (i := m) (Z := V0) ((l + 1 : Nat) : Int)
      omega
  have hBB : (V0 (o + 14) l = (l : Int) ∧ V0 (o + 14) (l + 1) = (l : Int) ∧ V0 (o + 13) l = V0 (o + 13) (l + 1)) ↔ (0 ≤ V0 210 l ∧ V0 210 l = V0 210 (l + 1) ∧ V0 211 l = (l : Int) ∧ V0 211 (l + 1) = (l : Int)) := by
    rcases hA with ⟨h1, h2, h3⟩ | ⟨m, h0, h1, h2, h3, h4, h5⟩
    · constructor
      · rintro ⟨q, -⟩; omega
      · rintro ⟨q, -⟩; omega
    · rcases hB with ⟨g1, g2, g3⟩ | ⟨m', g0, g1, g2, g3, g4⟩
      · constructor
        · rintro ⟨-, q, -⟩; omega
        · rintro ⟨-, q, -⟩; omega
      · constructor
        · rintro ⟨q1, q2, q3⟩
          exact ⟨by omega, by omega, by omega, by omega⟩
        · rintro ⟨q1, q2, q3, q4⟩
          exact ⟨by omega, by omega, by omega⟩
  have hRq : ∀ (Y : Nat → Nat → Int) (x : Int) v3, AgR Y V → pm_D (157, 90, [.ref 190, .int (pm_J (l : Int)), .int (pm_J x), v3], [], pm_hp L Y W) = pm_D (157, 143, [.ref 190, .int (pm_J (l : Int)), .int (pm_J x), v3], [.int (pm_J (if V0 (o + 14) l = (l : Int) ∧ V0 (o + 14) (l + 1) = (l : Int) ∧ V0 (o + 13) l = V0 (o + 13) (l + 1) then 1 else 0))], pm_hp L Y W) := fun Y x v3 A => by
    have y210 : Y 210 = V0 210 := (A 210 (by omega) (by omega)).trans v210
    have y211 : Y 211 = V0 211 := (A 211 (by omega) (by omega)).trans v211
    have h := r_both x v3 L Y W l7 (by rw [y210]; exact rA.2.2.1) (by rw [y210]; exact rB.2.2.1) (by rw [y210, y211]; exact rA.2.2.2) (by rw [y210, y211]; exact rB.2.2.2)
    rw [y210, y211] at h
    rw [h]
    by_cases q : V0 (o + 14) l = (l : Int) ∧ V0 (o + 14) (l + 1) = (l : Int) ∧ V0 (o + 13) l = V0 (o + 13) (l + 1)
    · rw [if_pos q, if_pos (hBB.mp q)]
    · rw [if_neg q, if_neg (fun k => q (hBB.mpr k))]
  have hCb : ∀ Y, AgC o Y V → pm_D (30, 0, [.ref o, .int (pm_J (l : Int))], [], pm_hp L Y W) = some (some (.int (pm_J (if V0 (o + 14) l = (l : Int) ∧ V0 (o + 14) (l + 1) = (l : Int) ∧ V0 (o + 13) l = V0 (o + 13) (l + 1) then 1 else 0))), pm_hp L Y W) := fun Y A => by
    have y13 : Y (o + 13) = V0 (o + 13) := (A _ (by omega) (by omega)).trans v13
    have y14 : Y (o + 14) = V0 (o + 14) := (A _ (by omega) (by omega)).trans v14
    have h := c_both ho L Y W l7 (by rw [y13]; exact rA.1) (by rw [y13]; exact rB.1) (by rw [y14]; exact rA.2.1) (by rw [y14]; exact rB.2.1)
    rw [y13, y14] at h
    exact h
  rcases (show V0 (o + 12) l = 0 ∨ V0 (o + 12) l = 1 by omega) with b | b
  · by_cases q : V0 (o + 14) l = (l : Int) ∧ V0 (o + 14) (l + 1) = (l : Int) ∧ V0 (o + 13) l = V0 (o + 13) (l + 1)
    · -- both work
      obtain ⟨m, hm, h13, h14, h210, h211, hne⟩ : ∃ m : Nat, (m : Int) < V0 190 22 ∧ V0 (o + 13) l = m ∧ V0 (o + 14) l = md_lk V0 m l ∧ V0 210 l = m ∧ V0 211 l = V0 (o + 14) l ∧ md_lk V0 m l ≠ -6 := by
        rcases hA with ⟨h1, h2, h3⟩ | h
        · omega
        · exact h
      have hcan := md_lk_can hne
      rw [← h14, q.1] at hcan
      obtain ⟨V1, M1, HC, HR⟩ := jw ho S M hl hm rfl q.1 q.2.1 hcan L W
      have m10 : (m : Int) < 10 := by omega
      refine ⟨V1, M1, fun Y A => ?_, fun Y v2 v3 A => ?_⟩
      · obtain ⟨Y', e, A', F'⟩ := HC Y A
        refine ⟨Y', ?_, A', F'⟩
        have yo : Y o 2 = V0 190 0 := by rw [A o (by omega) (by omega)]; exact vo2
        have y12 : Y (o + 12) l = 0 := by rw [A (o + 12) (by omega) (by omega), v12]; exact b
        have y13 : Y (o + 13) l = (m : Int) := by rw [A (o + 13) (by omega) (by omega), v13]; exact h13
        have hcb := hCb Y A
        rw [if_pos q] at hcb
        rw [q_28_35 o (l : Int)]
        simp (disch := first | assumption | decide +kernel | omega | (split <;> omega)) only [q_28_0, q_28_1, q_28_4, q_28_5, q_28_8, q_28_9, q_28_12, q_28_13, q_28_16, q_28_17, q_28_20, q_28_23, q_28_24, q_28_25, q_28_28, q_28_29, q_28_30, q_28_33, q_28_34, q_28_36, q_28_37, q_28_40, q_28_41, q_28_42, q_28_45, q_28_46, q_28_49, q_28_50, q_28_51, q_28_54, q_28_55, q_28_58, q_28_59, q_28_60, q_28_61, q_28_64, q_28_65, q_28_66, q_28_69, q_28_72, q_28_73, q_28_74, q_28_77, q_28_80, q_28_81, q_28_82, q_28_83, q_28_86, q_28_87, q_28_90, q_28_91, q_28_92, q_28_93, q_28_96, q_28_99, q_28_102, pm_some, Option.toList_some, Option.toList_none, List.cons_append, List.nil_append, pm_i0, pm_i1, Nat.reduceAdd, Nat.reduceMul, Int.toNat_natCast, Int.toNat_zero, yo, y12, y13, hl, hcb, not_true_eq_false, not_false_eq_true, and_self, true_and, and_true, ↓reduceIte, Int.reduceEq, Int.reduceLT, Int.reduceLE, Int.reduceNeg, Bool.false_eq_true, e]
      · obtain ⟨Y', e, A', F'⟩ := HR Y A
        have hid : pm_up Y 191 (271 + 4 * l + 3) (V 191 (271 + 4 * l + 3) + V0 (o + 12) l) = Y := pm_up_id _ _ _ (by rw [b, Int.add_zero, A 191 (by omega) (by omega)])
        refine ⟨Y', .int (pm_J 0), .int (pm_J 1), ?_, A', F'⟩
        have y210 : Y 210 l = (m : Int) := by rw [A 210 (by omega) (by omega), v210]; exact h210
        rw [hRp Y v2 v3 A, hid, hRq Y _ v3 A, if_pos q, b]
        simp (disch := first | assumption | decide +kernel | omega | (split <;> omega)) only [q_157_0, q_157_1, q_157_4, q_157_5, q_157_6, q_157_7, q_157_8, q_157_11, q_157_14, q_157_15, q_157_18, q_157_21, q_157_22, q_157_23, q_157_24, q_157_25, q_157_28, q_157_31, q_157_32, q_157_34, q_157_35, q_157_38, q_157_39, q_157_40, q_157_43, q_157_44, q_157_47, q_157_50, q_157_51, q_157_52, q_157_55, q_157_58, q_157_59, q_157_62, q_157_63, q_157_64, q_157_65, q_157_68, q_157_71, q_157_72, q_157_73, q_157_74, q_157_75, q_157_76, q_157_77, q_157_78, q_157_79, q_157_80, q_157_83, q_157_84, q_157_87, q_157_88, q_157_89, q_157_91, q_157_94, q_157_95, q_157_96, q_157_99, q_157_100, q_157_103, q_157_104, q_157_105, q_157_106, q_157_109, q_157_110, q_157_111, q_157_112, q_157_113, q_157_116, q_157_117, q_157_120, q_157_121, q_157_122, q_157_123, q_157_126, q_157_127, q_157_130, q_157_131, q_157_132, q_157_133, q_157_134, q_157_135, q_157_138, q_157_139, q_157_142, q_157_143, q_157_144, q_157_145, q_157_148, q_157_149, q_157_152, q_157_153, q_157_154, q_157_157, q_157_158, q_157_159, q_157_160, q_157_163, q_157_166, q_157_169, q_157_170, q_157_173, q_157_174, q_157_175, q_157_176, q_157_177, q_157_178, q_157_179, q_157_180, q_157_181, q_157_182, q_157_183, q_157_186, q_157_189, q_157_190, q_157_191, q_157_194, q_157_197, q_157_198, q_157_199, q_157_200, q_157_203, q_157_204, q_157_205, q_157_208, q_157_209, q_157_210, q_157_211, q_157_214, q_157_215, q_157_216, q_157_219, q_157_222, q_157_223, q_157_226, q_157_227, q_157_228, q_157_229, q_157_230, q_157_231, q_157_232, q_157_235, q_157_237, q_157_238, q_157_239, q_157_240, q_157_243, q_157_244, q_157_245, q_157_246, q_157_249, q_157_252, pm_some, Option.toList_some, Option.toList_none, List.cons_append, List.nil_append, pm_i0, pm_i1, Nat.reduceAdd, Nat.reduceMul, Int.toNat_natCast, Int.toNat_zero, y210, not_true_eq_false, not_false_eq_true, and_self, true_and, and_true, ↓reduceIte, Int.reduceEq, Int.reduceLT, Int.reduceLE, Int.reduceNeg, Bool.false_eq_true, e]
    · refine ⟨V, mid_blind ho S M hl 0 (by omega) (by omega) (fun _ _ _ => rfl) (fun _ _ => rfl) (Int.add_zero _).symm (Int.add_zero _).symm (fun _ _ => rfl), fun Y A => ⟨Y, ?_, A, FrC.rfl⟩, fun Y v2 v3 A => ⟨Y, .int (pm_J 0), .int (pm_J 0), ?_, A, FrR.rfl⟩⟩
      · have yo : Y o 2 = V0 190 0 := by rw [A o (by omega) (by omega)]; exact vo2
        have y12 : Y (o + 12) l = 0 := by rw [A (o + 12) (by omega) (by omega), v12]; exact b
        have hcb := hCb Y A
        rw [if_neg q] at hcb
        rw [q_28_35 o (l : Int)]
        simp (disch := first | assumption | decide +kernel | omega | (split <;> omega)) only [q_28_0, q_28_1, q_28_4, q_28_5, q_28_8, q_28_9, q_28_12, q_28_13, q_28_16, q_28_17, q_28_20, q_28_23, q_28_24, q_28_25, q_28_28, q_28_29, q_28_30, q_28_33, q_28_34, q_28_36, q_28_37, q_28_40, q_28_41, q_28_42, q_28_45, q_28_46, q_28_49, q_28_50, q_28_51, q_28_54, q_28_55, q_28_58, q_28_59, q_28_60, q_28_61, q_28_64, q_28_65, q_28_66, q_28_69, q_28_72, q_28_73, q_28_74, q_28_77, q_28_80, q_28_81, q_28_82, q_28_83, q_28_86, q_28_87, q_28_90, q_28_91, q_28_92, q_28_93, q_28_96, q_28_99, q_28_102, pm_some, Option.toList_some, Option.toList_none, List.cons_append, List.nil_append, pm_i0, pm_i1, Nat.reduceAdd, Nat.reduceMul, Int.toNat_natCast, Int.toNat_zero, yo, y12, hl, hcb, not_true_eq_false, not_false_eq_true, and_self, true_and, and_true, ↓reduceIte, Int.reduceEq, Int.reduceLT, Int.reduceLE, Int.reduceNeg, Bool.false_eq_true]
      · have hid : pm_up Y 191 (271 + 4 * l + 3) (V 191 (271 + 4 * l + 3) + V0 (o + 12) l) = Y := pm_up_id _ _ _ (by rw [b, Int.add_zero, A 191 (by omega) (by omega)])
        rw [hRp Y v2 v3 A, hid, hRq Y _ v3 A, if_neg q, b]
        simp (disch := first | assumption | decide +kernel | omega | (split <;> omega)) only [q_157_0, q_157_1, q_157_4, q_157_5, q_157_6, q_157_7, q_157_8, q_157_11, q_157_14, q_157_15, q_157_18, q_157_21, q_157_22, q_157_23, q_157_24, q_157_25, q_157_28, q_157_31, q_157_32, q_157_34, q_157_35, q_157_38, q_157_39, q_157_40, q_157_43, q_157_44, q_157_47, q_157_50, q_157_51, q_157_52, q_157_55, q_157_58, q_157_59, q_157_62, q_157_63, q_157_64, q_157_65, q_157_68, q_157_71, q_157_72, q_157_73, q_157_74, q_157_75, q_157_76, q_157_77, q_157_78, q_157_79, q_157_80, q_157_83, q_157_84, q_157_87, q_157_88, q_157_89, q_157_91, q_157_94, q_157_95, q_157_96, q_157_99, q_157_100, q_157_103, q_157_104, q_157_105, q_157_106, q_157_109, q_157_110, q_157_111, q_157_112, q_157_113, q_157_116, q_157_117, q_157_120, q_157_121, q_157_122, q_157_123, q_157_126, q_157_127, q_157_130, q_157_131, q_157_132, q_157_133, q_157_134, q_157_135, q_157_138, q_157_139, q_157_142, q_157_143, q_157_144, q_157_145, q_157_148, q_157_149, q_157_152, q_157_153, q_157_154, q_157_157, q_157_158, q_157_159, q_157_160, q_157_163, q_157_166, q_157_169, q_157_170, q_157_173, q_157_174, q_157_175, q_157_176, q_157_177, q_157_178, q_157_179, q_157_180, q_157_181, q_157_182, q_157_183, q_157_186, q_157_189, q_157_190, q_157_191, q_157_194, q_157_197, q_157_198, q_157_199, q_157_200, q_157_203, q_157_204, q_157_205, q_157_208, q_157_209, q_157_210, q_157_211, q_157_214, q_157_215, q_157_216, q_157_219, q_157_222, q_157_223, q_157_226, q_157_227, q_157_228, q_157_229, q_157_230, q_157_231, q_157_232, q_157_235, q_157_237, q_157_238, q_157_239, q_157_240, q_157_243, q_157_244, q_157_245, q_157_246, q_157_249, q_157_252, pm_some, Option.toList_some, Option.toList_none, List.cons_append, List.nil_append, pm_i0, pm_i1, Nat.reduceAdd, Nat.reduceMul, Int.toNat_natCast, Int.toNat_zero, not_true_eq_false, not_false_eq_true, and_self, true_and, and_true, ↓reduceIte, Int.reduceEq, Int.reduceLT, Int.reduceLE, Int.reduceNeg, Bool.false_eq_true]
  · clear hA hB
    refine ⟨pm_up (pm_up V (o + 10 + 55 + l) 3 (V 191 (271 + 4 * l + 3) + 1)) 191 (271 + 4 * l + 3) (V 191 (271 + 4 * l + 3) + 1), mid_blind ho S M hl 1 (by omega) (by omega) (fun c h1 h2 => by rw [pm_up_row h2, pm_up_row h1]) (fun q hq => by rw [pm_up_row (by omega), pm_up_ne (by omega)]) (by rw [pm_up_row (by omega), pm_up_same, hc3.1]) (by rw [pm_up_same]) (fun q hq => by rw [pm_up_ne (by omega), pm_up_row (by omega)]), fun Y A => ⟨pm_up Y (o + 10 + 55 + l) 3 (V 191 (271 + 4 * l + 3) + 1), ?_, AgC.skip (AgC.up A) (by omega), FrC.up FrC.rfl (by omega)⟩, fun Y v2 v3 A => ⟨pm_up Y 191 (271 + 4 * l + 3) (V 191 (271 + 4 * l + 3) + 1), .int (pm_J 1), .int (pm_J (if V0 (o + 14) l = (l : Int) ∧ V0 (o + 14) (l + 1) = (l : Int) ∧ V0 (o + 13) l = V0 (o + 13) (l + 1) then 1 else 0)), ?_, AgR.up (AgR.skip A (by omega)), FrR.up FrR.rfl (by omega)⟩⟩
    · have yo : Y o 2 = V0 190 0 := by rw [A o (by omega) (by omega)]; exact vo2
      have y12 : Y (o + 12) l = 1 := by rw [A (o + 12) (by omega) (by omega), v12]; exact b
      have y3 : Y (o + 10 + 55 + l) 3 = V 191 (271 + 4 * l + 3) := by rw [A (o + 10 + 55 + l) (by omega) (by omega)]; exact hc3.1
      rw [q_28_35 o (l : Int)]
      simp (disch := first | assumption | decide +kernel | omega | (split <;> omega)) only [q_28_0, q_28_1, q_28_4, q_28_5, q_28_8, q_28_9, q_28_12, q_28_13, q_28_16, q_28_17, q_28_20, q_28_23, q_28_24, q_28_25, q_28_28, q_28_29, q_28_30, q_28_33, q_28_34, q_28_36, q_28_37, q_28_40, q_28_41, q_28_42, q_28_45, q_28_46, q_28_49, q_28_50, q_28_51, q_28_54, q_28_55, q_28_58, q_28_59, q_28_60, q_28_61, q_28_64, q_28_65, q_28_66, q_28_69, q_28_72, q_28_73, q_28_74, q_28_77, q_28_80, q_28_81, q_28_82, q_28_83, q_28_86, q_28_87, q_28_90, q_28_91, q_28_92, q_28_93, q_28_96, q_28_99, q_28_102, pm_some, Option.toList_some, Option.toList_none, List.cons_append, List.nil_append, pm_i0, pm_i1, Nat.reduceAdd, Nat.reduceMul, Int.toNat_natCast, Int.toNat_zero, yo, y12, y3, hl, not_true_eq_false, not_false_eq_true, and_self, true_and, and_true, ↓reduceIte, Int.reduceEq, Int.reduceLT, Int.reduceLE, Int.reduceNeg, Bool.false_eq_true]
    · have A2 : AgR (pm_up Y 191 (271 + 4 * l + 3) (V 191 (271 + 4 * l + 3) + 1)) (pm_up V 191 (271 + 4 * l + 3) (V 191 (271 + 4 * l + 3) + 1)) := AgR.up A
      have y210 : pm_up Y 191 (271 + 4 * l + 3) (V 191 (271 + 4 * l + 3) + 1) 210 = V0 210 := by rw [pm_up_row (by omega)]; exact (A 210 (by omega) (by omega)).trans v210
      have y211 : pm_up Y 191 (271 + 4 * l + 3) (V 191 (271 + 4 * l + 3) + 1) 211 = V0 211 := by rw [pm_up_row (by omega)]; exact (A 211 (by omega) (by omega)).trans v211
      have h := r_both 1 v3 L (pm_up Y 191 (271 + 4 * l + 3) (V 191 (271 + 4 * l + 3) + 1)) W l7 (by rw [y210]; exact rA.2.2.1) (by rw [y210]; exact rB.2.2.1) (by rw [y210, y211]; exact rA.2.2.2) (by rw [y210, y211]; exact rB.2.2.2)
      rw [y210, y211] at h
      rw [hRp Y v2 v3 A, b, h]
      by_cases q : V0 (o + 14) l = (l : Int) ∧ V0 (o + 14) (l + 1) = (l : Int) ∧ V0 (o + 13) l = V0 (o + 13) (l + 1)
      · rw [if_pos q, if_pos (hBB.mp q)]
        simp (disch := first | assumption | decide +kernel | omega | (split <;> omega)) only [q_157_0, q_157_1, q_157_4, q_157_5, q_157_6, q_157_7, q_157_8, q_157_11, q_157_14, q_157_15, q_157_18, q_157_21, q_157_22, q_157_23, q_157_24, q_157_25, q_157_28, q_157_31, q_157_32, q_157_34, q_157_35, q_157_38, q_157_39, q_157_40, q_157_43, q_157_44, q_157_47, q_157_50, q_157_51, q_157_52, q_157_55, q_157_58, q_157_59, q_157_62, q_157_63, q_157_64, q_157_65, q_157_68, q_157_71, q_157_72, q_157_73, q_157_74, q_157_75, q_157_76, q_157_77, q_157_78, q_157_79, q_157_80, q_157_83, q_157_84, q_157_87, q_157_88, q_157_89, q_157_91, q_157_94, q_157_95, q_157_96, q_157_99, q_157_100, q_157_103, q_157_104, q_157_105, q_157_106, q_157_109, q_157_110, q_157_111, q_157_112, q_157_113, q_157_116, q_157_117, q_157_120, q_157_121, q_157_122, q_157_123, q_157_126, q_157_127, q_157_130, q_157_131, q_157_132, q_157_133, q_157_134, q_157_135, q_157_138, q_157_139, q_157_142, q_157_143, q_157_144, q_157_145, q_157_148, q_157_149, q_157_152, q_157_153, q_157_154, q_157_157, q_157_158, q_157_159, q_157_160, q_157_163, q_157_166, q_157_169, q_157_170, q_157_173, q_157_174, q_157_175, q_157_176, q_157_177, q_157_178, q_157_179, q_157_180, q_157_181, q_157_182, q_157_183, q_157_186, q_157_189, q_157_190, q_157_191, q_157_194, q_157_197, q_157_198, q_157_199, q_157_200, q_157_203, q_157_204, q_157_205, q_157_208, q_157_209, q_157_210, q_157_211, q_157_214, q_157_215, q_157_216, q_157_219, q_157_222, q_157_223, q_157_226, q_157_227, q_157_228, q_157_229, q_157_230, q_157_231, q_157_232, q_157_235, q_157_237, q_157_238, q_157_239, q_157_240, q_157_243, q_157_244, q_157_245, q_157_246, q_157_249, q_157_252, pm_some, Option.toList_some, Option.toList_none, List.cons_append, List.nil_append, pm_i0, pm_i1, Nat.reduceAdd, Nat.reduceMul, Int.toNat_natCast, Int.toNat_zero, not_true_eq_false, not_false_eq_true, and_self, true_and, and_true, ↓reduceIte, Int.reduceEq, Int.reduceLT, Int.reduceLE, Int.reduceNeg, Bool.false_eq_true]
      · rw [if_neg q, if_neg (fun k => q (hBB.mpr k))]
        simp (disch := first | assumption | decide +kernel | omega | (split <;> omega)) only [q_157_0, q_157_1, q_157_4, q_157_5, q_157_6, q_157_7, q_157_8, q_157_11, q_157_14, q_157_15, q_157_18, q_157_21, q_157_22, q_157_23, q_157_24, q_157_25, q_157_28, q_157_31, q_157_32, q_157_34, q_157_35, q_157_38, q_157_39, q_157_40, q_157_43, q_157_44, q_157_47, q_157_50, q_157_51, q_157_52, q_157_55, q_157_58, q_157_59, q_157_62, q_157_63, q_157_64, q_157_65, q_157_68, q_157_71, q_157_72, q_157_73, q_157_74, q_157_75, q_157_76, q_157_77, q_157_78, q_157_79, q_157_80, q_157_83, q_157_84, q_157_87, q_157_88, q_157_89, q_157_91, q_157_94, q_157_95, q_157_96, q_157_99, q_157_100, q_157_103, q_157_104, q_157_105, q_157_106, q_157_109, q_157_110, q_157_111, q_157_112, q_157_113, q_157_116, q_157_117, q_157_120, q_157_121, q_157_122, q_157_123, q_157_126, q_157_127, q_157_130, q_157_131, q_157_132, q_157_133, q_157_134, q_157_135, q_157_138, q_157_139, q_157_142, q_157_143, q_157_144, q_157_145, q_157_148, q_157_149, q_157_152, q_157_153, q_157_154, q_157_157, q_157_158, q_157_159, q_157_160, q_157_163, q_157_166, q_157_169, q_157_170, q_157_173, q_157_174, q_157_175, q_157_176, q_157_177, q_157_178, q_157_179, q_157_180, q_157_181, q_157_182, q_157_183, q_157_186, q_157_189, q_157_190, q_157_191, q_157_194, q_157_197, q_157_198, q_157_199, q_157_200, q_157_203, q_157_204, q_157_205, q_157_208, q_157_209, q_157_210, q_157_211, q_157_214, q_157_215, q_157_216, q_157_219, q_157_222, q_157_223, q_157_226, q_157_227, q_157_228, q_157_229, q_157_230, q_157_231, q_157_232, q_157_235, q_157_237, q_157_238, q_157_239, q_157_240, q_157_243, q_157_244, q_157_245, q_157_246, q_157_249, q_157_252, pm_some, Option.toList_some, Option.toList_none, List.cons_append, List.nil_append, pm_i0, pm_i1, Nat.reduceAdd, Nat.reduceMul, Int.toNat_natCast, Int.toNat_zero, not_true_eq_false, not_false_eq_true, and_self, true_and, and_true, ↓reduceIte, Int.reduceEq, Int.reduceLT, Int.reduceLE, Int.reduceNeg, Bool.false_eq_true]
/-- both sides do all links -/
theorem links {o : Nat} {T : Int} {V0 : Nat → Nat → Int} (ho : pm_isL o) (S : mst o T V0) (L : Nat) (W : Nat → Nat) : ∀ (n l : Nat) (V : Nat → Nat → Int), (l : Int) + n = V0 190 0 - 1 → mid o l T V0 V → ∃ V1, mid o (V0 190 0 - 1).toNat T V0 V1 ∧ (∀ Y, AgC o Y V → ∃ Y', pm_D (28, 35, [.ref o, .int (pm_J (l : Int))], [], pm_hp L Y W) = some (none, pm_hp L Y' W) ∧ AgC o Y' V1 ∧ FrC o Y Y') ∧ (∀ Y v2 v3, AgR Y V → ∃ Y' w1 w2 w3, pm_D (157, 33, [.ref 190, .int (pm_J (l : Int)), v2, v3], [], pm_hp L Y W) = pm_D (157, 169, [.ref 190, .int (pm_J w1), w2, w3], [], pm_hp L Y' W) ∧ AgR Y' V1 ∧ FrR Y Y') := by
  have hx : o = 46 ∨ o = 118 := ho
  obtain ⟨k1, -⟩ := pm_kdL ho
  obtain ⟨⟨s1, s2, s3, -⟩, -⟩ := id S
  intro n
  induction n with
  | zero =>
    intro l V hk M
    have mr := M.1.1
    have mo := M.1.2.1.1
    have v190 : V 190 = V0 190 := mr 190 (Or.inl rfl)
    have hlt : ¬ (l : Int) < V0 190 0 - 1 := by omega
    refine ⟨V, by rw [show (V0 190 0 - 1).toNat = l by omega]; exact M, fun Y A => ⟨Y, ?_, A, FrC.rfl⟩, fun Y v2 v3 A => ⟨Y, (l : Int), v2, v3, ?_, A, FrR.rfl⟩⟩
    · have yo : Y o 2 = V0 190 0 := by rw [A o (by omega) (by omega), mo 2 (by omega)]; exact s1
      rw [q_28_35]
      simp (disch := first | assumption | decide +kernel | omega | (split <;> omega)) only [q_28_0, q_28_1, q_28_4, q_28_5, q_28_8, q_28_9, q_28_12, q_28_13, q_28_16, q_28_17, q_28_20, q_28_23, q_28_24, q_28_25, q_28_28, q_28_29, q_28_30, q_28_33, q_28_34, q_28_36, q_28_37, q_28_40, q_28_41, q_28_42, q_28_45, q_28_46, q_28_49, q_28_50, q_28_51, q_28_54, q_28_55, q_28_58, q_28_59, q_28_60, q_28_61, q_28_64, q_28_65, q_28_66, q_28_69, q_28_72, q_28_73, q_28_74, q_28_77, q_28_80, q_28_81, q_28_82, q_28_83, q_28_86, q_28_87, q_28_90, q_28_91, q_28_92, q_28_93, q_28_96, q_28_99, q_28_102, pm_some, Option.toList_some, Option.toList_none, List.cons_append, List.nil_append, pm_i0, pm_i1, Nat.reduceAdd, Nat.reduceMul, Int.toNat_natCast, Int.toNat_zero, yo, hlt, not_true_eq_false, not_false_eq_true, and_self, true_and, and_true, ↓reduceIte, Int.reduceEq, Int.reduceLT, Int.reduceLE, Int.reduceNeg, Bool.false_eq_true]
    · have y0 : Y 190 0 = V0 190 0 := by rw [A 190 (by omega) (by omega), v190]
      rw [q_157_33]
      simp (disch := first | assumption | decide +kernel | omega | (split <;> omega)) only [q_157_0, q_157_1, q_157_4, q_157_5, q_157_6, q_157_7, q_157_8, q_157_11, q_157_14, q_157_15, q_157_18, q_157_21, q_157_22, q_157_23, q_157_24, q_157_25, q_157_28, q_157_31, q_157_32, q_157_34, q_157_35, q_157_38, q_157_39, q_157_40, q_157_43, q_157_44, q_157_47, q_157_50, q_157_51, q_157_52, q_157_55, q_157_58, q_157_59, q_157_62, q_157_63, q_157_64, q_157_65, q_157_68, q_157_71, q_157_72, q_157_73, q_157_74, q_157_75, q_157_76, q_157_77, q_157_78, q_157_79, q_157_80, q_157_83, q_157_84, q_157_87, q_157_88, q_157_89, q_157_90, q_157_91, q_157_94, q_157_95, q_157_96, q_157_99, q_157_100, q_157_103, q_157_104, q_157_105, q_157_106, q_157_109, q_157_110, q_157_111, q_157_112, q_157_113, q_157_116, q_157_117, q_157_120, q_157_121, q_157_122, q_157_123, q_157_126, q_157_127, q_157_130, q_157_131, q_157_132, q_157_133, q_157_134, q_157_135, q_157_138, q_157_139, q_157_142, q_157_143, q_157_144, q_157_145, q_157_148, q_157_149, q_157_152, q_157_153, q_157_154, q_157_157, q_157_158, q_157_159, q_157_160, q_157_163, q_157_166, q_157_170, q_157_173, q_157_174, q_157_175, q_157_176, q_157_177, q_157_178, q_157_179, q_157_180, q_157_181, q_157_182, q_157_183, q_157_186, q_157_189, q_157_190, q_157_191, q_157_194, q_157_197, q_157_198, q_157_199, q_157_200, q_157_203, q_157_204, q_157_205, q_157_208, q_157_209, q_157_210, q_157_211, q_157_214, q_157_215, q_157_216, q_157_219, q_157_222, q_157_223, q_157_226, q_157_227, q_157_228, q_157_229, q_157_230, q_157_231, q_157_232, q_157_235, q_157_237, q_157_238, q_157_239, q_157_240, q_157_243, q_157_244, q_157_245, q_157_246, q_157_249, q_157_252, pm_some, Option.toList_some, Option.toList_none, List.cons_append, List.nil_append, pm_i0, pm_i1, Nat.reduceAdd, Nat.reduceMul, Int.toNat_natCast, Int.toNat_zero, y0, hlt, not_true_eq_false, not_false_eq_true, and_self, true_and, and_true, ↓reduceIte, Int.reduceEq, Int.reduceLT, Int.reduceLE, Int.reduceNeg, Bool.false_eq_true]
  | succ n ih =>
    intro l V hk M
    obtain ⟨V1, M1, HC, HR⟩ := link_step ho S M (by omega) L W
    obtain ⟨V2, M2, HC2, HR2⟩ := ih (l + 1) V1 (by omega) M1
    refine ⟨V2, M2, fun Y A => ?_, fun Y v2 v3 A => ?_⟩
    · obtain ⟨Y1, e1, A1, F1⟩ := HC Y A
      obtain ⟨Y2, e2, A2, F2⟩ := HC2 Y1 A1
      rw [show (((l + 1 : Nat)) : Int) = (l : Int) + 1 by omega] at e2
      exact ⟨Y2, e1.trans e2, A2, FrC.trans F1 F2⟩
    · obtain ⟨Y1, x2, x3, e1, A1, F1⟩ := HR Y v2 v3 A
      obtain ⟨Y2, x4, x5, x6, e2, A2, F2⟩ := HR2 Y1 x2 x3 A1
      rw [show (((l + 1 : Nat)) : Int) = (l : Int) + 1 by omega] at e2
      exact ⟨Y2, x4, x5, x6, e1.trans e2, A2, FrR.trans F1 F2⟩
