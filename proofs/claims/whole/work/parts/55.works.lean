/-! both sides work on a link -/
theorem md_pick_spec (Z : Nat → Nat → Int) (t : Int) : ∀ k : Nat, md_pick Z t k = (-6, -6) ∨ ∃ m : Nat, m < k ∧ md_pick Z t k = ((m : Int), md_lk Z m t) ∧ md_lk Z m t ≠ -6
  | 0 => Or.inl rfl
  | k + 1 => by
    have ih := md_pick_spec Z t k
    by_cases c : md_lk Z k t ≠ -6 ∧ ((md_pick Z t k).1 < 0 ∨ md_rk Z (md_pick Z t k).1.toNat < md_rk Z k)
    · refine Or.inr ⟨k, by omega, ?_, c.1⟩
      show (if _ then _ else _) = _
      rw [if_pos c]
    · have e : md_pick Z t (k + 1) = md_pick Z t k := by
        show (if _ then _ else _) = _
        rw [if_neg c]
      rw [e]
      rcases ih with h | ⟨m, h1, h2, h3⟩
      · exact Or.inl h
      · exact Or.inr ⟨m, by omega, h2, h3⟩
theorem md_lk_can {Z : Nat → Nat → Int} {m : Nat} {t : Int} (h : md_lk Z m t ≠ -6) : md_can Z m (md_lk Z m t) = true := by
  unfold md_lk at h ⊢
  by_cases c1 : md_can Z m (if Z 205 m < Z 206 m then t else t - 1) = true
  · rw [if_pos c1]; exact c1
  · rw [if_neg c1] at h ⊢
    by_cases c2 : md_can Z m (if Z 205 m < Z 206 m then t - 1 else t) = true
    · rw [if_pos c2]; exact c2
    · rw [if_neg c2] at h
      exact absurd rfl h
theorem md_can_iff {Z : Nat → Nat → Int} {m : Nat} {l : Int} : md_can Z m l = true ↔ Z 191 (1 + m) = 0 ∧ (if Z 205 m < Z 206 m then Z 205 m else Z 206 m) ≤ l ∧ l < (if Z 205 m < Z 206 m then Z 206 m else Z 205 m) ∧ Z 191 (31 + 8 * m + (if Z 205 m < Z 206 m then l + 1 else l).toNat) < Z 191 (31 + 8 * m + (if Z 205 m < Z 206 m then l else l + 1).toNat) := by
  unfold md_can
  simp only [Bool.and_eq_true, decide_eq_true_eq, and_assoc]
/-- what both look at -/
theorem work_vals {o l m a : Nat} {T : Int} {V0 V : Nat → Nat → Int} (ho : pm_isL o) (S : mst o T V0) (M : mid o l T V0 V) (hl : (l : Int) < V0 190 0 - 1) (hm : (m : Int) < V0 190 22) (ea : a = o + 9 + 6 + 5 * m) (hl14 : V0 (o + 14) l = (l : Int)) (hcan : md_can V0 m l = true) : ∃ (bf bh : Nat) (n s st h c e p er f : Int), cw o a l bf bh n s st h c e p er V ∧ cf o l c f V ∧ rw_ m l bf bh n s st h c e p er V ∧ rf l c f V ∧ V 191 (1 + m) = 0 := by
  have hx : o = 46 ∨ o = 118 := ho
  obtain ⟨⟨s1, s2, s3, s4, s5, s6, s7, s8, s9, s10, s11, s12⟩, -, ⟨⟨f1, f2, f3⟩, f4⟩, -⟩ := id S
  obtain ⟨⟨mr, ⟨mo, mo1, mo2⟩, mq, mlen⟩, mm, mu, mc, ms, ml⟩ := id M
  have v190 : V 190 = V0 190 := mr 190 (Or.inl rfl)
  have v5 : V 205 = V0 205 := mr 205 (by unfold md_row; omega)
  have v6 : V 206 = V0 206 := mr 206 (by unfold md_row; omega)
  have x5 : V (o + 5) = V0 (o + 5) := mr _ (by unfold md_row; omega)
  have x6 : V (o + 5 + 1) = V0 (o + 5 + 1) := mr _ (by unfold md_row; omega)
  have x7 : V (o + 5 + 2) = V0 (o + 5 + 2) := mr _ (by unfold md_row; omega)
  have x8 : V (o + 5 + 3) = V0 (o + 5 + 3) := mr _ (by unfold md_row; omega)
  have y6 : V 196 = V0 196 := mr 196 (by unfold md_row; omega)
  have y7 : V 197 = V0 197 := mr 197 (by unfold md_row; omega)
  have y8 : V 198 = V0 198 := mr 198 (by unfold md_row; omega)
  have l7 : l < 7 := by omega
  have m10 : m < 10 := by omega
  obtain ⟨hs, hd', hL, hp, hc, hoo⟩ := mm m hm
  rw [← ea] at hs hd' hL hp hc hoo
  obtain ⟨⟨p1, p2, p3, p4, p5, p6, p7⟩, ⟨p8, p9, p10⟩, z1, z2, z3, z4, z5, z6, z7⟩ := id hs
  obtain ⟨-, -, -, -, -, er1, er2, er3⟩ := hd'
  rw [v190] at p4 p6
  obtain ⟨c1, c2, c3, c4⟩ := md_can_iff.mp hcan
  rw [← v5, ← v6] at c2 c3 c4
  rw [← p9] at c2
  rw [← p10] at c3
  have hb3 : 0 ≤ V a 3 := by rw [p9]; split <;> omega
  have hb4 : V a 4 < 8 := by rw [p10]; split <;> omega
  have st0 : V 191 (1 + m) = 0 := by rw [mq _ (by omega)]; exact c1
  have l1 := ml m l hm (by omega) (Or.inr ⟨rfl, hl14⟩)
  have l2 := ml m (l + 1) hm (by omega) (Or.inl (by omega))
  have hLl := hL l c2 (by omega)
  have hLr := hL (l + 1) (by omega) (by omega)
  have q0 := mc l 0 l7 (by omega)
  have q1 := mc l 1 l7 (by omega)
  have q2 := mc l 2 l7 (by omega)
  rw [if_neg (Nat.lt_irrefl l)] at q0 q1 q2
  rw [show 271 + 4 * l + 0 = 271 + 4 * l from rfl] at q0
  have pl := hp l c2 c3
  have hlen : ∀ t : Nat, V a 3 ≤ t → (t : Int) ≤ V a 4 → 0 ≤ V (a + 2) t ∧ V (a + 2) t ≤ 30 := fun t k1 k2 => by
    have := hL t k1 k2
    omega
  have d1 : V a 3 ≤ V a 1 ∧ V a 1 ≤ V a 4 := by
    rw [p9, p10, p2]
    constructor <;> split <;> omega
  have r5 : pm_r (V 205 m) := by omega
  have r6 : pm_r (V 206 m) := by omega
  have hf4 : ∀ k : Nat, (k : Int) < V0 190 9 → V0 (o + 5 + 1) k = V0 196 k ∧ V0 (o + 5 + 2) k = V0 197 k ∧ V0 (o + 5 + 3) k = V0 198 k ∧ 0 ≤ V0 196 k ∧ V0 196 k < 7 ∧ 1 ≤ V0 197 k ∧ V0 197 k ≤ 10000 ∧ 1 ≤ V0 198 k ∧ V0 198 k ≤ 99 := f4
  have hof := md_of_r (r1 := V0 196) (r2 := V0 197) (r3 := V0 198) (l := (l : Int)) (r := V (o + 10 + 55 + l) 0 + 1) (b := 99) (by omega) (V0 190 9).toNat 0 (fun j h1 h2 => by
    have := hf4 j (by omega)
    omega)
  have hcf : cf o l (V (o + 10 + 55 + l) 0) (md_of (V0 196) (V0 197) (V0 198) (l : Int) (V (o + 10 + 55 + l) 0 + 1) (V0 190 9).toNat 0) V := by
    unfold cf
    rw [x5, x6, x7, x8, f1]
    refine ⟨⟨f2, f3⟩, fun k hk => ?_, ?_, hof.1, hof.2⟩
    · have := hf4 k hk
      omega
    · exact md_of_congr _ _ (fun j h1 h2 => by
        have := hf4 j (by omega)
        exact ⟨this.1, this.2.1, this.2.2.1⟩)
  have hrf : rf l (V (o + 10 + 55 + l) 0) (md_of (V0 196) (V0 197) (V0 198) (l : Int) (V (o + 10 + 55 + l) 0 + 1) (V0 190 9).toNat 0) V := by
    unfold rf
    rw [v190, y6, y7, y8, s10]
    refine ⟨⟨f2, f3⟩, fun k hk => ?_, by decide, if_pos (by decide), hof.1, hof.2⟩
    have := hf4 k hk
    omega
  by_cases hu : V 205 m < V 206 m
  · rw [if_pos hu, if_pos hu] at c4
    rw [Int.toNat_natCast, show ((l : Int) + 1).toNat = l + 1 by omega, ← l1, ← l2, ← hLl.1, ← hLr.1] at c4
    have hcc := hc l (V (a + 2) (l + 1)).toNat c2 (by omega) (by omega)
    refine ⟨l, l + 1, V (a + 2) (l + 1), V (a + 1) (l * 30 + (V (a + 2) (l + 1)).toNat), V (a + 3) l, V (a + 4) l, V (o + 10 + 55 + l) 0, V (o + 10 + 55 + l) 1, V (o + 10 + 55 + l) 2, V a 10, _, ?_, hcf, ?_, hrf, st0⟩
    · exact ⟨Or.inr ⟨by rw [p8, if_pos hu], rfl, rfl⟩, l7, ⟨hb3, hb4, c2, by omega⟩, hlen, ⟨rfl, c4, by omega, by omega⟩, ⟨rfl, hcc.2.1, hcc.2.2⟩, ⟨rfl, pl.2.1, pl.2.2.1⟩, ⟨rfl, pl.2.2.2.2.1, pl.2.2.2.2.2⟩, ⟨rfl, by omega, by omega⟩, ⟨rfl, by omega, by omega⟩, ⟨rfl, by omega, by omega⟩, ⟨rfl, by omega, by omega⟩, d1⟩
    · exact ⟨Or.inr ⟨hu, rfl, rfl⟩, l7, m10, ⟨r5, r6⟩, ⟨hLr.1.symm, by omega, by omega⟩, ⟨hcc.1.symm, hcc.2.1, hcc.2.2⟩, ⟨pl.1.symm, pl.2.1, pl.2.2.1⟩, ⟨pl.2.2.2.1.symm, pl.2.2.2.2.1, pl.2.2.2.2.2⟩, ⟨q0.1.symm, by omega, by omega⟩, ⟨q1.1.symm, by omega, by omega⟩, ⟨q2.1.symm, by omega, by omega⟩, ⟨er1.symm, by omega, by omega⟩⟩
  · rw [if_neg hu, if_neg hu] at c4
    rw [Int.toNat_natCast, show ((l : Int) + 1).toNat = l + 1 by omega, ← l1, ← l2, ← hLl.1, ← hLr.1] at c4
    have hcc := hc (l + 1) (V (a + 2) l).toNat (by omega) (by omega) (by omega)
    refine ⟨l + 1, l, V (a + 2) l, V (a + 1) ((l + 1) * 30 + (V (a + 2) l).toNat), V (a + 3) l, V (a + 4) l, V (o + 10 + 55 + l) 0, V (o + 10 + 55 + l) 1, V (o + 10 + 55 + l) 2, V a 10, _, ?_, hcf, ?_, hrf, st0⟩
    · exact ⟨Or.inl ⟨by rw [p8, if_neg hu], rfl, rfl⟩, l7, ⟨hb3, hb4, c2, by omega⟩, hlen, ⟨rfl, c4, by omega, by omega⟩, ⟨rfl, hcc.2.1, hcc.2.2⟩, ⟨rfl, pl.2.1, pl.2.2.1⟩, ⟨rfl, pl.2.2.2.2.1, pl.2.2.2.2.2⟩, ⟨rfl, by omega, by omega⟩, ⟨rfl, by omega, by omega⟩, ⟨rfl, by omega, by omega⟩, ⟨rfl, by omega, by omega⟩, d1⟩
    · exact ⟨Or.inl ⟨hu, rfl, rfl⟩, l7, m10, ⟨r5, r6⟩, ⟨hLl.1.symm, by omega, by omega⟩, ⟨hcc.1.symm, hcc.2.1, hcc.2.2⟩, ⟨pl.1.symm, pl.2.1, pl.2.2.1⟩, ⟨pl.2.2.2.1.symm, pl.2.2.2.2.1, pl.2.2.2.2.2⟩, ⟨q0.1.symm, by omega, by omega⟩, ⟨q1.1.symm, by omega, by omega⟩, ⟨q2.1.symm, by omega, by omega⟩, ⟨er1.symm, by omega, by omega⟩⟩
/-- both have worked -/
def Jw (o l a m : Nat) (T : Int) (L : Nat) (W : Nat → Nat) (V0 V : Nat → Nat → Int) : Prop := ∃ V1, mid o (l + 1) T V0 V1 ∧ (∀ Y, AgC o Y V → ∃ Y', pm_D (31, 0, [.ref o, .int (pm_J (l : Int)), .ref a, .null, .null], [], pm_hp L Y W) = some (none, pm_hp L Y' W) ∧ AgC o Y' V1 ∧ FrC o Y Y') ∧ (∀ Y, AgR Y V → ∃ Y', pm_D (155, 0, [.ref 190, .int (pm_J (m : Int)), .int (pm_J (l : Int)), .null, .null, .null, .null], [], pm_hp L Y W) = some (none, pm_hp L Y' W) ∧ AgR Y' V1 ∧ FrR Y Y')

theorem jw0 {o l m a bf bh : Nat} {T n s st h c e p er f : Int} {V0 V : Nat → Nat → Int} (ho : pm_isL o) (S : mst o T V0) (M : mid o l T V0 V) (hl : (l : Int) < V0 190 0 - 1) (hm : (m : Int) < V0 190 22) (ea : a = o + 9 + 6 + 5 * m) (H : cw o a l bf bh n s st h c e p er V) (F : cf o l c f V) (HR : rw_ m l bf bh n s st h c e p er V) (FR : rf l c f V) (L : Nat) (W : Nat → Nat) (hst : st = 0) : Jw o l a m T L W V0 V := by
  have hx : o = 46 ∨ o = 118 := ho
  have S1 := S.1
  have mm := M.2.1 m hm
  have ms := M.2.2.2.2.1
  have mv190 : V 190 = V0 190 := M.1.1 190 (Or.inl rfl)
  have m10 : m < 10 := by omega
  obtain ⟨hd, hl7, ⟨c1, c2, c3, c4⟩, hlen, ⟨n1, n2, n3, n4⟩, ⟨s1, s2, s3⟩, ⟨t1, t2, t3⟩, ⟨h1, h2, h3⟩, ⟨u1, u2, u3⟩, ⟨e1, e2, e3⟩, ⟨p1, p2, p3⟩, ⟨r1, r2, r3⟩, ⟨d1, d2⟩⟩ := id H
  obtain ⟨hdR, -, -, ⟨-, -⟩, ⟨n1', n2', n3'⟩, ⟨s1', -⟩, ⟨t1', -⟩, ⟨h1', -⟩, ⟨u1', -⟩, ⟨e1', -⟩, ⟨p1', -⟩, ⟨r1', -⟩⟩ := id HR
  have bfh : bf ≠ bh ∧ bf < 8 ∧ bh < 8 := by omega
  refine ⟨wR0 m l bf s (wC0 o a l bf s V), ?_, fun Y A => ⟨wC0 o a l bf s Y, c_work0 ho m10 ea L Y W (cw_ag A (by omega) (by omega) H) (cf_ag A F) hst, AgC.skip (AgC.skip (AgC.up (AgC.up (A))) (by omega)) (by omega), FrC.up (FrC.up (FrC.rfl) (by omega)) (by omega)⟩, fun Y A => ⟨wR0 m l bf s Y, c_R_work0 L Y W (rw_ag A HR) (rf_ag A FR) hst, AgR.up (AgR.up (AgR.skip (AgR.skip (A) (by omega)) (by omega))), FrR.up (FrR.up (FrR.rfl) (by omega)) (by omega)⟩⟩
  refine mid_step0 ho S M hl hm ea 0 0 1 (h) (by omega) (by omega) (by omega) (by omega) (by omega) (by omega) (by omega) (by omega) ?_ ?_ ?_ ?_ ?_ ?_ ?_ ?_ ?_ ?_ ?_ ?_ ?_ ?_ ?_ ?_ ?_ ?_
  · intro b b1 b2 b3 b4 b5 b6
    exact (by (simp (disch := omega) only [wC0, wR0, pm_up_row, pm_up_ne, pm_up_same]) <;> omega)
  · intro q hq
    exact (by (simp (disch := omega) only [wC0, wR0, pm_up_row, pm_up_ne, pm_up_same]) <;> omega)
  · exact (by (simp (disch := omega) only [wC0, wR0, pm_up_row, pm_up_ne, pm_up_same]) <;> omega)
  · exact (by (simp (disch := omega) only [wC0, wR0, pm_up_row, pm_up_ne, pm_up_same]) <;> omega)
  · intro q hq
    exact (by (simp (disch := omega) only [wC0, wR0, pm_up_row, pm_up_ne, pm_up_same]) <;> omega)
  · exact (by (simp (disch := omega) only [wC0, wR0, pm_up_row, pm_up_ne, pm_up_same]) <;> omega)
  · intro q hq
    exact (by (simp (disch := omega) only [wC0, wR0, pm_up_row, pm_up_ne, pm_up_same]) <;> omega)
  · exact (by (simp (disch := omega) only [wC0, wR0, pm_up_row, pm_up_ne, pm_up_same]) <;> omega)
  · exact (by (simp (disch := omega) only [wC0, wR0, pm_up_row, pm_up_ne, pm_up_same]) <;> omega)
  · exact (by (simp (disch := omega) only [wC0, wR0, pm_up_row, pm_up_ne, pm_up_same]) <;> omega)
  · exact (by (simp (disch := omega) only [wC0, wR0, pm_up_row, pm_up_ne, pm_up_same]) <;> omega)
  · exact (by (simp (disch := omega) only [wC0, wR0, pm_up_row, pm_up_ne, pm_up_same]) <;> omega)
  · exact (by (simp (disch := omega) only [wC0, wR0, pm_up_row, pm_up_ne, pm_up_same]) <;> omega)
  · exact (by (simp (disch := omega) only [wC0, wR0, pm_up_row, pm_up_ne, pm_up_same]) <;> omega)
  · exact (by (simp (disch := omega) only [wC0, wR0, pm_up_row, pm_up_ne, pm_up_same]) <;> omega)
  · exact (by (simp (disch := omega) only [wC0, wR0, pm_up_row, pm_up_ne, pm_up_same]) <;> omega)
  · intro q q1 q2 q3 q4 q5 q6
    exact (by (simp (disch := omega) only [wC0, wR0, pm_up_row, pm_up_ne, pm_up_same]) <;> omega)
  · intro t ht ht'
    have w190 : (wR0 m l bf s (wC0 o a l bf s V)) 190 = V 190 := by simp (disch := omega) only [wC0, wR0, pm_up_row]
    rw [w190] at ht'
    have := ms t ht ht'
    by_cases b1 : t = bf
    · subst b1
      refine ⟨?_, ?_, ?_⟩ <;> (simp (disch := omega) only [wC0, wR0, pm_up_row, pm_up_ne, pm_up_same]) <;> omega
    · refine ⟨?_, ?_, ?_⟩ <;> (simp (disch := omega) only [wC0, wR0, pm_up_row, pm_up_ne, pm_up_same]) <;> omega

theorem jw1 {o l m a bf bh : Nat} {T n s st h c e p er f : Int} {V0 V : Nat → Nat → Int} (ho : pm_isL o) (S : mst o T V0) (M : mid o l T V0 V) (hl : (l : Int) < V0 190 0 - 1) (hm : (m : Int) < V0 190 22) (ea : a = o + 9 + 6 + 5 * m) (H : cw o a l bf bh n s st h c e p er V) (F : cf o l c f V) (HR : rw_ m l bf bh n s st h c e p er V) (FR : rf l c f V) (L : Nat) (W : Nat → Nat) (hst : st = 1) : Jw o l a m T L W V0 V := by
  have hx : o = 46 ∨ o = 118 := ho
  have S1 := S.1
  have mm := M.2.1 m hm
  have ms := M.2.2.2.2.1
  have mv190 : V 190 = V0 190 := M.1.1 190 (Or.inl rfl)
  have m10 : m < 10 := by omega
  obtain ⟨hd, hl7, ⟨c1, c2, c3, c4⟩, hlen, ⟨n1, n2, n3, n4⟩, ⟨s1, s2, s3⟩, ⟨t1, t2, t3⟩, ⟨h1, h2, h3⟩, ⟨u1, u2, u3⟩, ⟨e1, e2, e3⟩, ⟨p1, p2, p3⟩, ⟨r1, r2, r3⟩, ⟨d1, d2⟩⟩ := id H
  obtain ⟨hdR, -, -, ⟨-, -⟩, ⟨n1', n2', n3'⟩, ⟨s1', -⟩, ⟨t1', -⟩, ⟨h1', -⟩, ⟨u1', -⟩, ⟨e1', -⟩, ⟨p1', -⟩, ⟨r1', -⟩⟩ := id HR
  have bfh : bf ≠ bh ∧ bf < 8 ∧ bh < 8 := by omega
  have x0 := Int.emod_nonneg (s + f) (show (100 : Int) ≠ 0 by decide)
  have x1 := Int.emod_lt_of_pos (s + f) (show (0 : Int) < 100 by decide)
  refine ⟨wR1 m l bf bh s ((s + f) % 100) c (wC1 o a l bf bh s ((s + f) % 100) c V), ?_, fun Y A => ⟨wC1 o a l bf bh s ((s + f) % 100) c Y, c_work1 ho m10 ea L Y W (cw_ag A (by omega) (by omega) H) (cf_ag A F) hst, AgC.skip (AgC.skip (AgC.skip (AgC.skip (AgC.skip (AgC.up (AgC.up (AgC.up (AgC.up (AgC.up (A)))))) (by omega)) (by omega)) (by omega)) (by omega)) (by omega), FrC.up (FrC.up (FrC.up (FrC.up (FrC.up (FrC.rfl) (by omega)) (by omega)) (by omega)) (by omega)) (by omega)⟩, fun Y A => ⟨wR1 m l bf bh s ((s + f) % 100) c Y, c_R_work1 L Y W (rw_ag A HR) (rf_ag A FR) hst, AgR.up (AgR.up (AgR.up (AgR.up (AgR.up (AgR.skip (AgR.skip (AgR.skip (AgR.skip (AgR.skip (A) (by omega)) (by omega)) (by omega)) (by omega)) (by omega)))))), FrR.up (FrR.up (FrR.up (FrR.up (FrR.up (FrR.rfl) (by omega)) (by omega)) (by omega)) (by omega)) (by omega)⟩⟩
  refine mid_step0 ho S M hl hm ea 1 0 2 ((s + f) % 100) (by omega) (by omega) (by omega) (by omega) (by omega) (by omega) (by omega) (by omega) ?_ ?_ ?_ ?_ ?_ ?_ ?_ ?_ ?_ ?_ ?_ ?_ ?_ ?_ ?_ ?_ ?_ ?_
  · intro b b1 b2 b3 b4 b5 b6
    exact (by (simp (disch := omega) only [wC1, wR1, pm_up_row, pm_up_ne, pm_up_same]) <;> omega)
  · intro q hq
    exact (by (simp (disch := omega) only [wC1, wR1, pm_up_row, pm_up_ne, pm_up_same]) <;> omega)
  · exact (by (simp (disch := omega) only [wC1, wR1, pm_up_row, pm_up_ne, pm_up_same]) <;> omega)
  · exact (by (simp (disch := omega) only [wC1, wR1, pm_up_row, pm_up_ne, pm_up_same]) <;> omega)
  · intro q hq
    exact (by (simp (disch := omega) only [wC1, wR1, pm_up_row, pm_up_ne, pm_up_same]) <;> omega)
  · exact (by (simp (disch := omega) only [wC1, wR1, pm_up_row, pm_up_ne, pm_up_same]) <;> omega)
  · intro q hq
    exact (by (simp (disch := omega) only [wC1, wR1, pm_up_row, pm_up_ne, pm_up_same]) <;> omega)
  · exact (by (simp (disch := omega) only [wC1, wR1, pm_up_row, pm_up_ne, pm_up_same]) <;> omega)
  · exact (by (simp (disch := omega) only [wC1, wR1, pm_up_row, pm_up_ne, pm_up_same]) <;> omega)
  · exact (by (simp (disch := omega) only [wC1, wR1, pm_up_row, pm_up_ne, pm_up_same]) <;> omega)
  · exact (by (simp (disch := omega) only [wC1, wR1, pm_up_row, pm_up_ne, pm_up_same]) <;> omega)
  · exact (by (simp (disch := omega) only [wC1, wR1, pm_up_row, pm_up_ne, pm_up_same]) <;> omega)
  · exact (by (simp (disch := omega) only [wC1, wR1, pm_up_row, pm_up_ne, pm_up_same]) <;> omega)
  · exact (by (simp (disch := omega) only [wC1, wR1, pm_up_row, pm_up_ne, pm_up_same]) <;> omega)
  · exact (by (simp (disch := omega) only [wC1, wR1, pm_up_row, pm_up_ne, pm_up_same]) <;> omega)
  · exact (by (simp (disch := omega) only [wC1, wR1, pm_up_row, pm_up_ne, pm_up_same]) <;> omega)
  · intro q q1 q2 q3 q4 q5 q6
    exact (by (simp (disch := omega) only [wC1, wR1, pm_up_row, pm_up_ne, pm_up_same]) <;> omega)
  · intro t ht ht'
    have w190 : (wR1 m l bf bh s ((s + f) % 100) c (wC1 o a l bf bh s ((s + f) % 100) c V)) 190 = V 190 := by simp (disch := omega) only [wC1, wR1, pm_up_row]
    rw [w190] at ht'
    have := ms t ht ht'
    by_cases b1 : t = bf
    · subst b1
      refine ⟨?_, ?_, ?_⟩ <;> (simp (disch := omega) only [wC1, wR1, pm_up_row, pm_up_ne, pm_up_same]) <;> omega
    · by_cases b2 : t = bh
      · subst b2
        refine ⟨?_, ?_, ?_⟩ <;> (simp (disch := omega) only [wC1, wR1, pm_up_row, pm_up_ne, pm_up_same]) <;> omega
      · refine ⟨?_, ?_, ?_⟩ <;> (simp (disch := omega) only [wC1, wR1, pm_up_row, pm_up_ne, pm_up_same]) <;> omega

theorem jw2 {o l m a bf bh : Nat} {T n s st h c e p er f : Int} {V0 V : Nat → Nat → Int} (ho : pm_isL o) (S : mst o T V0) (M : mid o l T V0 V) (hl : (l : Int) < V0 190 0 - 1) (hm : (m : Int) < V0 190 22) (ea : a = o + 9 + 6 + 5 * m) (H : cw o a l bf bh n s st h c e p er V) (F : cf o l c f V) (HR : rw_ m l bf bh n s st h c e p er V) (FR : rf l c f V) (L : Nat) (W : Nat → Nat) (hst : st = 2) (hne : ¬ (h + f) % 100 = s) : Jw o l a m T L W V0 V := by
  have hx : o = 46 ∨ o = 118 := ho
  have S1 := S.1
  have mm := M.2.1 m hm
  have ms := M.2.2.2.2.1
  have mv190 : V 190 = V0 190 := M.1.1 190 (Or.inl rfl)
  have m10 : m < 10 := by omega
  obtain ⟨hd, hl7, ⟨c1, c2, c3, c4⟩, hlen, ⟨n1, n2, n3, n4⟩, ⟨s1, s2, s3⟩, ⟨t1, t2, t3⟩, ⟨h1, h2, h3⟩, ⟨u1, u2, u3⟩, ⟨e1, e2, e3⟩, ⟨p1, p2, p3⟩, ⟨r1, r2, r3⟩, ⟨d1, d2⟩⟩ := id H
  obtain ⟨hdR, -, -, ⟨-, -⟩, ⟨n1', n2', n3'⟩, ⟨s1', -⟩, ⟨t1', -⟩, ⟨h1', -⟩, ⟨u1', -⟩, ⟨e1', -⟩, ⟨p1', -⟩, ⟨r1', -⟩⟩ := id HR
  have bfh : bf ≠ bh ∧ bf < 8 ∧ bh < 8 := by omega
  refine ⟨wR2 m l c e er (wC2 o a l c e er V), ?_, fun Y A => ⟨wC2 o a l c e er Y, c_work2 ho m10 ea L Y W (cw_ag A (by omega) (by omega) H) (cf_ag A F) hst hne, AgC.skip (AgC.skip (AgC.skip (AgC.skip (AgC.up (AgC.up (AgC.up (AgC.up (A))))) (by omega)) (by omega)) (by omega)) (by omega), FrC.up (FrC.up (FrC.up (FrC.up (FrC.rfl) (by omega)) (by omega)) (by omega)) (by omega)⟩, fun Y A => ⟨wR2 m l c e er Y, c_R_work2 L Y W (rw_ag A HR) (rf_ag A FR) hst hne, AgR.up (AgR.up (AgR.up (AgR.up (AgR.skip (AgR.skip (AgR.skip (AgR.skip (A) (by omega)) (by omega)) (by omega)) (by omega))))), FrR.up (FrR.up (FrR.up (FrR.up (FrR.rfl) (by omega)) (by omega)) (by omega)) (by omega)⟩⟩
  refine mid_step0 ho S M hl hm ea 1 1 3 (h) (by omega) (by omega) (by omega) (by omega) (by omega) (by omega) (by omega) (by omega) ?_ ?_ ?_ ?_ ?_ ?_ ?_ ?_ ?_ ?_ ?_ ?_ ?_ ?_ ?_ ?_ ?_ ?_
  · intro b b1 b2 b3 b4 b5 b6
    exact (by (simp (disch := omega) only [wC2, wR2, pm_up_row, pm_up_ne, pm_up_same]) <;> omega)
  · intro q hq
    exact (by (simp (disch := omega) only [wC2, wR2, pm_up_row, pm_up_ne, pm_up_same]) <;> omega)
  · exact (by (simp (disch := omega) only [wC2, wR2, pm_up_row, pm_up_ne, pm_up_same]) <;> omega)
  · exact (by (simp (disch := omega) only [wC2, wR2, pm_up_row, pm_up_ne, pm_up_same]) <;> omega)
  · intro q hq
    exact (by (simp (disch := omega) only [wC2, wR2, pm_up_row, pm_up_ne, pm_up_same]) <;> omega)
  · exact (by (simp (disch := omega) only [wC2, wR2, pm_up_row, pm_up_ne, pm_up_same]) <;> omega)
  · intro q hq
    exact (by (simp (disch := omega) only [wC2, wR2, pm_up_row, pm_up_ne, pm_up_same]) <;> omega)
  · exact (by (simp (disch := omega) only [wC2, wR2, pm_up_row, pm_up_ne, pm_up_same]) <;> omega)
  · exact (by (simp (disch := omega) only [wC2, wR2, pm_up_row, pm_up_ne, pm_up_same]) <;> omega)
  · exact (by (simp (disch := omega) only [wC2, wR2, pm_up_row, pm_up_ne, pm_up_same]) <;> omega)
  · exact (by (simp (disch := omega) only [wC2, wR2, pm_up_row, pm_up_ne, pm_up_same]) <;> omega)
  · exact (by (simp (disch := omega) only [wC2, wR2, pm_up_row, pm_up_ne, pm_up_same]) <;> omega)
  · exact (by (simp (disch := omega) only [wC2, wR2, pm_up_row, pm_up_ne, pm_up_same]) <;> omega)
  · exact (by (simp (disch := omega) only [wC2, wR2, pm_up_row, pm_up_ne, pm_up_same]) <;> omega)
  · exact (by (simp (disch := omega) only [wC2, wR2, pm_up_row, pm_up_ne, pm_up_same]) <;> omega)
  · exact (by (simp (disch := omega) only [wC2, wR2, pm_up_row, pm_up_ne, pm_up_same]) <;> omega)
  · intro q q1 q2 q3 q4 q5 q6
    exact (by (simp (disch := omega) only [wC2, wR2, pm_up_row, pm_up_ne, pm_up_same]) <;> omega)
  · intro t ht ht'
    have w190 : (wR2 m l c e er (wC2 o a l c e er V)) 190 = V 190 := by simp (disch := omega) only [wC2, wR2, pm_up_row]
    rw [w190] at ht'
    have := ms t ht ht'
    refine ⟨?_, ?_, ?_⟩ <;> (simp (disch := omega) only [wC2, wR2, pm_up_row, pm_up_ne, pm_up_same]) <;> omega

theorem jw4 {o l m a bf bh : Nat} {T n s st h c e p er f : Int} {V0 V : Nat → Nat → Int} (ho : pm_isL o) (S : mst o T V0) (M : mid o l T V0 V) (hl : (l : Int) < V0 190 0 - 1) (hm : (m : Int) < V0 190 22) (ea : a = o + 9 + 6 + 5 * m) (H : cw o a l bf bh n s st h c e p er V) (F : cf o l c f V) (HR : rw_ m l bf bh n s st h c e p er V) (FR : rf l c f V) (L : Nat) (W : Nat → Nat) (hst : st = 3) : Jw o l a m T L W V0 V := by
  have hx : o = 46 ∨ o = 118 := ho
  have S1 := S.1
  have mm := M.2.1 m hm
  have ms := M.2.2.2.2.1
  have mv190 : V 190 = V0 190 := M.1.1 190 (Or.inl rfl)
  have m10 : m < 10 := by omega
  obtain ⟨hd, hl7, ⟨c1, c2, c3, c4⟩, hlen, ⟨n1, n2, n3, n4⟩, ⟨s1, s2, s3⟩, ⟨t1, t2, t3⟩, ⟨h1, h2, h3⟩, ⟨u1, u2, u3⟩, ⟨e1, e2, e3⟩, ⟨p1, p2, p3⟩, ⟨r1, r2, r3⟩, ⟨d1, d2⟩⟩ := id H
  obtain ⟨hdR, -, -, ⟨-, -⟩, ⟨n1', n2', n3'⟩, ⟨s1', -⟩, ⟨t1', -⟩, ⟨h1', -⟩, ⟨u1', -⟩, ⟨e1', -⟩, ⟨p1', -⟩, ⟨r1', -⟩⟩ := id HR
  have bfh : bf ≠ bh ∧ bf < 8 ∧ bh < 8 := by omega
  refine ⟨wR4 m l bf (wC4 o a l bf V), ?_, fun Y A => ⟨wC4 o a l bf Y, c_work4 ho m10 ea L Y W (cw_ag A (by omega) (by omega) H) (cf_ag A F) hst, AgC.skip (AgC.skip (AgC.up (AgC.up (A))) (by omega)) (by omega), FrC.up (FrC.up (FrC.rfl) (by omega)) (by omega)⟩, fun Y A => ⟨wR4 m l bf Y, c_R_work4 L Y W (rw_ag A HR) (rf_ag A FR) hst, AgR.up (AgR.up (AgR.skip (AgR.skip (A) (by omega)) (by omega))), FrR.up (FrR.up (FrR.rfl) (by omega)) (by omega)⟩⟩
  refine mid_step0 ho S M hl hm ea 0 0 0 (h) (by omega) (by omega) (by omega) (by omega) (by omega) (by omega) (by omega) (by omega) ?_ ?_ ?_ ?_ ?_ ?_ ?_ ?_ ?_ ?_ ?_ ?_ ?_ ?_ ?_ ?_ ?_ ?_
  · intro b b1 b2 b3 b4 b5 b6
    exact (by (simp (disch := omega) only [wC4, wR4, pm_up_row, pm_up_ne, pm_up_same]) <;> omega)
  · intro q hq
    exact (by (simp (disch := omega) only [wC4, wR4, pm_up_row, pm_up_ne, pm_up_same]) <;> omega)
  · exact (by (simp (disch := omega) only [wC4, wR4, pm_up_row, pm_up_ne, pm_up_same]) <;> omega)
  · exact (by (simp (disch := omega) only [wC4, wR4, pm_up_row, pm_up_ne, pm_up_same]) <;> omega)
  · intro q hq
    exact (by (simp (disch := omega) only [wC4, wR4, pm_up_row, pm_up_ne, pm_up_same]) <;> omega)
  · exact (by (simp (disch := omega) only [wC4, wR4, pm_up_row, pm_up_ne, pm_up_same]) <;> omega)
  · intro q hq
    exact (by (simp (disch := omega) only [wC4, wR4, pm_up_row, pm_up_ne, pm_up_same]) <;> omega)
  · exact (by (simp (disch := omega) only [wC4, wR4, pm_up_row, pm_up_ne, pm_up_same]) <;> omega)
  · exact (by (simp (disch := omega) only [wC4, wR4, pm_up_row, pm_up_ne, pm_up_same]) <;> omega)
  · exact (by (simp (disch := omega) only [wC4, wR4, pm_up_row, pm_up_ne, pm_up_same]) <;> omega)
  · exact (by (simp (disch := omega) only [wC4, wR4, pm_up_row, pm_up_ne, pm_up_same]) <;> omega)
  · exact (by (simp (disch := omega) only [wC4, wR4, pm_up_row, pm_up_ne, pm_up_same]) <;> omega)
  · exact (by (simp (disch := omega) only [wC4, wR4, pm_up_row, pm_up_ne, pm_up_same]) <;> omega)
  · exact (by (simp (disch := omega) only [wC4, wR4, pm_up_row, pm_up_ne, pm_up_same]) <;> omega)
  · exact (by (simp (disch := omega) only [wC4, wR4, pm_up_row, pm_up_ne, pm_up_same]) <;> omega)
  · exact (by (simp (disch := omega) only [wC4, wR4, pm_up_row, pm_up_ne, pm_up_same]) <;> omega)
  · intro q q1 q2 q3 q4 q5 q6
    exact (by (simp (disch := omega) only [wC4, wR4, pm_up_row, pm_up_ne, pm_up_same]) <;> omega)
  · intro t ht ht'
    have w190 : (wR4 m l bf (wC4 o a l bf V)) 190 = V 190 := by simp (disch := omega) only [wC4, wR4, pm_up_row]
    rw [w190] at ht'
    have := ms t ht ht'
    by_cases b1 : t = bf
    · subst b1
      refine ⟨?_, ?_, ?_⟩ <;> (simp (disch := omega) only [wC4, wR4, pm_up_row, pm_up_ne, pm_up_same]) <;> omega
    · refine ⟨?_, ?_, ?_⟩ <;> (simp (disch := omega) only [wC4, wR4, pm_up_row, pm_up_ne, pm_up_same]) <;> omega
