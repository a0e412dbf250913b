/-! work on a link: each side alone -/
/-- what a line's work on link l for the message at a looks at -/
def cw (o a l bf bh : Nat) (n s st h c e p er : Int) (Z : Nat → Nat → Int) : Prop :=
  ((Z a 2 = 0 ∧ bf = l + 1 ∧ bh = l) ∨ (Z a 2 = 1 ∧ bf = l ∧ bh = l + 1)) ∧ l < 7 ∧ (0 ≤ Z a 3 ∧ Z a 4 < 8 ∧ Z a 3 ≤ l ∧ (l : Int) + 1 ≤ Z a 4) ∧
  (∀ t : Nat, Z a 3 ≤ t → (t : Int) ≤ Z a 4 → 0 ≤ Z (a + 2) t ∧ Z (a + 2) t ≤ 30) ∧
  (Z (a + 2) bh = n ∧ n < Z (a + 2) bf ∧ n < Z a 6 ∧ Z a 6 ≤ 30) ∧ (Z (a + 1) (bf * 30 + n.toNat) = s ∧ 0 ≤ s ∧ s ≤ 99) ∧ (Z (a + 3) l = st ∧ 0 ≤ st ∧ st ≤ 3) ∧ (Z (a + 4) l = h ∧ 0 ≤ h ∧ h ≤ 99) ∧
  (Z (o + 10 + 55 + l) 0 = c ∧ 0 ≤ c ∧ c ≤ 1000000) ∧ (Z (o + 10 + 55 + l) 1 = e ∧ 0 ≤ e ∧ e ≤ 1000000) ∧ (Z (o + 10 + 55 + l) 2 = p ∧ 0 ≤ p ∧ p ≤ 1000000) ∧ (Z a 10 = er ∧ 0 ≤ er ∧ er ≤ 10000000) ∧ (Z a 3 ≤ Z a 1 ∧ Z a 1 ≤ Z a 4)
def cf (o l : Nat) (c f : Int) (Z : Nat → Nat → Int) : Prop :=
  (0 ≤ Z (o + 5) 3 ∧ Z (o + 5) 3 ≤ 16) ∧ (∀ k : Nat, (k : Int) < Z (o + 5) 3 → pm_r (Z (o + 5 + 1) k) ∧ pm_r (Z (o + 5 + 2) k)) ∧ md_of (Z (o + 5 + 1)) (Z (o + 5 + 2)) (Z (o + 5 + 3)) l (c + 1) (Z (o + 5) 3).toNat 0 = f ∧ 0 ≤ f ∧ f ≤ 99
def wC0 (o a l bf : Nat) (s : Int) (Z : Nat → Nat → Int) := pm_up (pm_up Z (o + 11) bf s) (a + 3) l 1
def wC1 (o a l bf bh : Nat) (s x c : Int) (Z : Nat → Nat → Int) := pm_up (pm_up (pm_up (pm_up (pm_up Z (o + 10 + 55 + l) 0 (c + 1)) (a + 4) l x) (o + 11) bf s) (o + 11) bh x) (a + 3) l 2
def wC2 (o a l : Nat) (c e er : Int) (Z : Nat → Nat → Int) := pm_up (pm_up (pm_up (pm_up Z (o + 10 + 55 + l) 0 (c + 1)) (o + 10 + 55 + l) 1 (e + 1)) a 10 (er + 1)) (a + 3) l 3
def wC3 (o a l bh : Nat) (n h c p : Int) (Z : Nat → Nat → Int) := pm_up (pm_up (pm_up (pm_up (pm_up Z (o + 10 + 55 + l) 0 (c + 1)) (a + 3) l 0) (a + 1) (bh * 30 + n.toNat) h) (a + 2) bh (n + 1)) (o + 10 + 55 + l) 2 (p + 1)
def wC4 (o a l bf : Nat) (Z : Nat → Nat → Int) := pm_up (pm_up Z (o + 11) bf 99) (a + 3) l 0
theorem c_nextSign {o m a l bf bh : Nat} {n s st h c e p er : Int} (ho : pm_isL o) (hm : m < 10) (ea : a = o + 9 + 6 + 5 * m) (L : Nat) (Z : Nat → Nat → Int) (W : Nat → Nat) (H : cw o a l bf bh n s st h c e p er Z) : pm_D (51, 0, [.ref a, .int (pm_J (l : Int))], [], pm_hp L Z W) = some (some (.int (pm_J s)), pm_hp L Z W) := by
  obtain ⟨m1, m2, m3, m4, m5, m6, m7, m8, m9⟩ := pm_kdM (n := m) ho hm
  rw [← ea] at m1 m2 m3 m4 m5 m6 m7 m8 m9
  obtain ⟨hd, hl, ⟨c1, c2, c3, c4⟩, hlen, ⟨n1, n2, n3, n4⟩, ⟨s1, s2, s3⟩, -⟩ := H
  have q : ∀ (t k : Int), pm_r t → pm_r k → _ := fun t k ht hk => c_signAt a t k L Z W m1 m2 m3 m4 m5 ht hk c1 c2 (by omega) hlen
  have f1 : ((l : Int) + 1).toNat = l + 1 := by omega
  have f2 : (((l : Int) + 1) * 30 + n).toNat = (l + 1) * 30 + n.toNat ∨ n < 0 := by omega
  have f3 : ((l : Int) * 30 + n).toNat = l * 30 + n.toNat ∨ n < 0 := by omega
  rcases hd with ⟨h2, rfl, rfl⟩ | ⟨h2, rfl, rfl⟩
  · have hn := hlen bh c3 (by omega)
    have hb := hlen (bh + 1) (by omega) (by omega)
    have r2 : pm_r (Z a 2) := by omega
    have g := q ((bh : Int) + 1) n (by omega) (by omega)
    rw [if_pos ⟨by omega, by omega, by rw [f1]; exact n2⟩, show (((bh : Int) + 1) * 30 + n).toNat = (bh + 1) * 30 + n.toNat by omega, s1] at g
    simp (disch := first | assumption | decide +kernel | omega | (split <;> omega)) only [q_51_0, q_51_1, q_51_2, q_51_3, q_51_6, q_51_7, q_51_10, q_51_11, q_51_12, q_51_15, q_51_16, q_51_19, c_towerBefore, c_towerBehind, pm_some, Option.toList_some, Option.toList_none, List.cons_append, List.nil_append, pm_i0, pm_i1, Nat.reduceAdd, Nat.reduceMul, Int.toNat_natCast, Int.toNat_zero, h2, n1, not_true_eq_false, not_false_eq_true, and_self, true_and, and_true, ↓reduceIte, Int.reduceEq, Int.reduceLT, Int.reduceLE, Int.reduceNeg, Bool.false_eq_true, g]
  · have hn := hlen (bf + 1) (by omega) (by omega)
    have hb := hlen bf c3 (by omega)
    have r2 : pm_r (Z a 2) := by omega
    have g := q (bf : Int) n (by omega) (by omega)
    rw [if_pos ⟨by omega, by omega, by rw [Int.toNat_natCast]; exact n2⟩, show ((bf : Int) * 30 + n).toNat = bf * 30 + n.toNat by omega, s1] at g
    simp (disch := first | assumption | decide +kernel | omega | (split <;> omega)) only [q_51_0, q_51_1, q_51_2, q_51_3, q_51_6, q_51_7, q_51_10, q_51_11, q_51_12, q_51_15, q_51_16, q_51_19, c_towerBefore, c_towerBehind, pm_some, Option.toList_some, Option.toList_none, List.cons_append, List.nil_append, pm_i0, pm_i1, Nat.reduceAdd, Nat.reduceMul, Int.toNat_natCast, Int.toNat_zero, h2, n1, f1, not_true_eq_false, not_false_eq_true, and_self, true_and, and_true, ↓reduceIte, Int.reduceEq, Int.reduceLT, Int.reduceLE, Int.reduceNeg, Bool.false_eq_true, g]
theorem c_readOn {o l : Nat} (ho : pm_isL o) (x c f : Int) (L : Nat) (Z : Nat → Nat → Int) (W : Nat → Nat) (hl : l < 7) (hc : Z (o + 10 + 55 + l) 0 = c) (c0 : 0 ≤ c) (c1 : c ≤ 1000000) (x0 : 0 ≤ x) (x1 : x ≤ 99) (H : cf o l c f Z) : pm_D (32, 0, [.ref o, .int (pm_J (l : Int)), .int (pm_J x)], [], pm_hp L Z W) = some (some (.int (pm_J ((x + f) % 100))), pm_hp L (pm_up Z (o + 10 + 55 + l) 0 (c + 1)) W) := by
  obtain ⟨k1, k2, k3, k4, k5, k6, k7, k8, k9, k10, k11, k12, k13, k14, k15⟩ := pm_kdL ho
  obtain ⟨-, -, -, -, -, -, y1, y2, y3, y4, y5, y6⟩ := pm_kdW ho
  have kc : pm_kd (o + 10 + 55 + l) = 3 := pm_kdC ho hl
  obtain ⟨⟨g1, g2⟩, hv, hf, f0, f1⟩ := H
  have r0 : pm_up Z (o + 10 + 55 + l) 0 (c + 1) (o + 5) = Z (o + 5) := pm_up_row (by omega)
  have r1 : pm_up Z (o + 10 + 55 + l) 0 (c + 1) (o + 5 + 1) = Z (o + 5 + 1) := pm_up_row (by omega)
  have r2 : pm_up Z (o + 10 + 55 + l) 0 (c + 1) (o + 5 + 2) = Z (o + 5 + 2) := pm_up_row (by omega)
  have r3 : pm_up Z (o + 10 + 55 + l) 0 (c + 1) (o + 5 + 3) = Z (o + 5 + 3) := pm_up_row (by omega)
  have hof := c_offsetOf (o + 5) (l : Int) (c + 1) L (pm_up Z (o + 10 + 55 + l) 0 (c + 1)) W k3 y1 y2 y3 y4 y5 y6 (by omega) (by omega) (by rw [r0]; exact g1) (by rw [r0]; exact g2) (by rw [r0, r1, r2]; exact hv)
  rw [r0, r1, r2, r3, hf] at hof
  simp (disch := first | assumption | decide +kernel | omega | (split <;> omega)) only [q_32_0, q_32_1, q_32_4, q_32_5, q_32_6, q_32_7, q_32_10, q_32_11, q_32_12, q_32_15, q_32_16, q_32_17, q_32_20, q_32_21, q_32_22, q_32_25, q_32_26, q_32_27, q_32_30, q_32_33, q_32_34, q_32_36, q_32_37, pm_some, Option.toList_some, Option.toList_none, List.cons_append, List.nil_append, pm_i0, pm_i1, Nat.reduceAdd, Nat.reduceMul, Int.toNat_natCast, Int.toNat_zero, hc, hof, pm_up_same]
theorem c_passOn {o m a l bf bh : Nat} {n s st h c e p er : Int} (ho : pm_isL o) (hm : m < 10) (ea : a = o + 9 + 6 + 5 * m) (L : Nat) (Z : Nat → Nat → Int) (W : Nat → Nat) (h2 : (Z a 2 = 0 ∧ bf = l + 1 ∧ bh = l) ∨ (Z a 2 = 1 ∧ bf = l ∧ bh = l + 1)) (hl : l < 7) (hn : Z (a + 2) bh = n) (n0 : 0 ≤ n) (n1 : n < Z a 6) (n2 : Z a 6 ≤ 30) (hh : Z (a + 4) l = h) : pm_D (52, 0, [.ref a, .int (pm_J (l : Int)), .null], [], pm_hp L Z W) = some (none, pm_hp L (pm_up (pm_up Z (a + 1) (bh * 30 + n.toNat) h) (a + 2) bh (n + 1)) W) := by
  obtain ⟨m1, m2, m3, m4, m5, m6, m7, m8, m9⟩ := pm_kdM (n := m) ho hm
  rw [← ea] at m1 m2 m3 m4 m5 m6 m7 m8 m9
  rcases h2 with ⟨h2, rfl, rfl⟩ | ⟨h2, rfl, rfl⟩
  · have r2 : pm_r (Z a 2) := by omega
    have f : ((bh : Int) * 30 + n).toNat = bh * 30 + n.toNat := by omega
    simp (disch := first | assumption | decide +kernel | omega | (split <;> omega)) only [q_52_0, q_52_1, q_52_2, q_52_5, q_52_6, q_52_7, q_52_10, q_52_11, q_52_12, q_52_13, q_52_16, q_52_19, q_52_20, q_52_23, q_52_24, q_52_26, q_52_27, q_52_28, q_52_31, q_52_32, q_52_33, q_52_34, q_52_35, q_52_38, q_52_39, q_52_40, q_52_41, q_52_42, q_52_45, q_52_46, q_52_47, q_52_48, q_52_49, q_52_50, q_52_51, c_towerBehind, pm_some, Option.toList_some, Option.toList_none, List.cons_append, List.nil_append, pm_i0, pm_i1, Nat.reduceAdd, Nat.reduceMul, Int.toNat_natCast, Int.toNat_zero, h2, hn, n1, f, hh, not_true_eq_false, not_false_eq_true, and_self, true_and, and_true, ↓reduceIte, Int.reduceEq, Int.reduceLT, Int.reduceLE, Int.reduceNeg, Bool.false_eq_true, pm_up_ne]
  · have r2 : pm_r (Z a 2) := by omega
    have f1 : ((bf : Int) + 1).toNat = bf + 1 := by omega
    have f : (((bf : Int) + 1) * 30 + n).toNat = (bf + 1) * 30 + n.toNat := by omega
    simp (disch := first | assumption | decide +kernel | omega | (split <;> omega)) only [q_52_0, q_52_1, q_52_2, q_52_5, q_52_6, q_52_7, q_52_10, q_52_11, q_52_12, q_52_13, q_52_16, q_52_19, q_52_20, q_52_23, q_52_24, q_52_26, q_52_27, q_52_28, q_52_31, q_52_32, q_52_33, q_52_34, q_52_35, q_52_38, q_52_39, q_52_40, q_52_41, q_52_42, q_52_45, q_52_46, q_52_47, q_52_48, q_52_49, q_52_50, q_52_51, c_towerBehind, pm_some, Option.toList_some, Option.toList_none, List.cons_append, List.nil_append, pm_i0, pm_i1, Nat.reduceAdd, Nat.reduceMul, Int.toNat_natCast, Int.toNat_zero, h2, f1, hn, n1, f, hh, not_true_eq_false, not_false_eq_true, and_self, true_and, and_true, ↓reduceIte, Int.reduceEq, Int.reduceLT, Int.reduceLE, Int.reduceNeg, Bool.false_eq_true, pm_up_ne]
theorem c_isWhole (a : Nat) (L : Nat) (Z : Nat → Nat → Int) (W : Nat → Nat) (k1 : pm_kd a = 4) (k2 : pm_kd (a + 2) = 11) (k3 : pm_ln (a + 2) = 8) (t0 : 0 ≤ Z a 1) (t1 : Z a 1 < 8) (r1 : pm_r (Z (a + 2) (Z a 1).toNat)) (r2 : pm_r (Z a 6)) : pm_D (53, 0, [.ref a], [], pm_hp L Z W) = some (some (.int (pm_J (if Z (a + 2) (Z a 1).toNat < Z a 6 then 0 else 1))), pm_hp L Z W) := by
  by_cases w : Z (a + 2) (Z a 1).toNat < Z a 6
  · simp (disch := first | assumption | decide +kernel | omega | (split <;> omega)) only [q_53_0, q_53_1, q_53_4, q_53_5, q_53_8, q_53_9, q_53_10, q_53_13, q_53_16, q_53_17, q_53_20, q_53_21, pm_some, Option.toList_some, Option.toList_none, List.cons_append, List.nil_append, pm_i0, pm_i1, Nat.reduceAdd, Nat.reduceMul, Int.toNat_natCast, Int.toNat_zero, w, not_true_eq_false, not_false_eq_true, and_self, true_and, and_true, ↓reduceIte, Int.reduceEq, Int.reduceLT, Int.reduceLE, Int.reduceNeg, Bool.false_eq_true]
  · simp (disch := first | assumption | decide +kernel | omega | (split <;> omega)) only [q_53_0, q_53_1, q_53_4, q_53_5, q_53_8, q_53_9, q_53_10, q_53_13, q_53_16, q_53_17, q_53_20, q_53_21, pm_some, Option.toList_some, Option.toList_none, List.cons_append, List.nil_append, pm_i0, pm_i1, Nat.reduceAdd, Nat.reduceMul, Int.toNat_natCast, Int.toNat_zero, w, not_true_eq_false, not_false_eq_true, and_self, true_and, and_true, ↓reduceIte, Int.reduceEq, Int.reduceLT, Int.reduceLE, Int.reduceNeg, Bool.false_eq_true]
theorem c_arrive (a : Nat) (t : Int) (L : Nat) (Z : Nat → Nat → Int) (W : Nat → Nat) (k1 : pm_kd a = 4) : pm_D (54, 0, [.ref a, .int (pm_J t)], [], pm_hp L Z W) = some (none, pm_hp L (pm_up (pm_up Z a 7 1) a 9 t) W) := by
  simp (disch := first | assumption | decide +kernel | omega | (split <;> omega)) only [q_54_0, q_54_1, q_54_2, q_54_5, q_54_6, q_54_7, q_54_10, pm_some, Option.toList_some, Option.toList_none, List.cons_append, List.nil_append, pm_i0, pm_i1, Nat.reduceAdd, Nat.reduceMul, Int.toNat_natCast, Int.toNat_zero]

theorem c_compare2 {o m a l bf bh : Nat} {n s st h c e p er f : Int} (ho : pm_isL o) (hm : m < 10) (ea : a = o + 9 + 6 + 5 * m) (L : Nat) (Z : Nat → Nat → Int) (W : Nat → Nat) (H : cw o a l bf bh n s st h c e p er Z) (F : cf o l c f Z) (hne : ¬ (h + f) % 100 = s) : pm_D (33, 0, [.ref o, .int (pm_J (l : Int)), .ref a, .int (pm_J s)], [], pm_hp L Z W) = some (none, pm_hp L (wC2 o a l c e er Z) W) := by
  obtain ⟨k1, k2, k3, k4, k5, k6, k7, k8, k9, k10, k11, k12, k13, k14, k15⟩ := pm_kdL ho
  obtain ⟨m1, m2, m3, m4, m5, m6, m7, m8, m9⟩ := pm_kdM (n := m) ho hm
  rw [← ea] at m1 m2 m3 m4 m5 m6 m7 m8 m9
  obtain ⟨hd, hl, ⟨c1, c2, c3, c4⟩, hlen, ⟨n1, n2, n3, n4⟩, ⟨s1, s2, s3⟩, ⟨t1, t2, t3⟩, ⟨h1, h2, h3⟩, ⟨u1, u2, u3⟩, ⟨e1, e2, e3⟩, ⟨p1, p2, p3⟩, ⟨r1, r2, r3⟩, ⟨d1, d2⟩⟩ := id H
  have kc : pm_kd (o + 10 + 55 + l) = 3 := pm_kdC ho hl
  have l0 : (l : Int) < 7 := by omega
  have hns := c_nextSign ho hm ea L Z W H
  have hro := c_readOn ho h c f L Z W hl u1 u2 u3 h2 h3 F
  have x0 := Int.emod_nonneg (h + f) (show (100 : Int) ≠ 0 by decide)
  have x1 := Int.emod_lt_of_pos (h + f) (show (0 : Int) < 100 by decide)
  have z1 : pm_up Z (o + 10 + 55 + l) 0 (c + 1) (o + 10 + 55 + l) 1 = e := by rw [pm_up_ne (by omega)]; exact e1
  have z2 : pm_up (pm_up Z (o + 10 + 55 + l) 0 (c + 1)) (o + 10 + 55 + l) 1 (e + 1) a 10 = er := by rw [pm_up_row (by omega), pm_up_row (by omega)]; exact r1
  simp (disch := first | assumption | decide +kernel | omega | (split <;> omega)) only [q_33_0, q_33_1, q_33_2, q_33_3, q_33_6, q_33_7, q_33_8, q_33_11, q_33_12, q_33_15, q_33_16, q_33_19, q_33_20, q_33_21, q_33_22, q_33_25, q_33_26, q_33_27, q_33_30, q_33_31, q_33_32, q_33_35, q_33_36, q_33_37, q_33_40, q_33_41, q_33_44, q_33_45, q_33_46, q_33_47, q_33_48, q_33_49, q_33_52, q_33_53, q_33_54, q_33_55, q_33_56, q_33_57, q_33_60, q_33_61, q_33_64, q_33_65, q_33_66, q_33_67, q_33_70, q_33_71, q_33_72, q_33_75, q_33_76, q_33_79, q_33_82, q_33_83, q_33_84, q_33_87, q_33_90, q_33_91, q_33_94, pm_some, Option.toList_some, Option.toList_none, List.cons_append, List.nil_append, pm_i0, pm_i1, Nat.reduceAdd, Nat.reduceMul, Int.toNat_natCast, Int.toNat_zero, h1, hro, hne, not_true_eq_false, not_false_eq_true, and_self, true_and, and_true, ↓reduceIte, Int.reduceEq, Int.reduceLT, Int.reduceLE, Int.reduceNeg, Bool.false_eq_true, z1, z2]
  rfl
theorem c_compare3 {o m a l bf bh : Nat} {n s st h c e p er f : Int} (ho : pm_isL o) (hm : m < 10) (ea : a = o + 9 + 6 + 5 * m) (L : Nat) (Z : Nat → Nat → Int) (W : Nat → Nat) (H : cw o a l bf bh n s st h c e p er Z) (F : cf o l c f Z) (heq : (h + f) % 100 = s) : pm_D (33, 0, [.ref o, .int (pm_J (l : Int)), .ref a, .int (pm_J s)], [], pm_hp L Z W) = some (none, pm_hp L (pm_up (if wC3 o a l bh n h c p Z (a + 2) (Z a 1).toNat < Z a 6 then wC3 o a l bh n h c p Z else pm_up (pm_up (wC3 o a l bh n h c p Z) a 7 1) a 9 (Z o 3)) o 11 0) W) := by
  obtain ⟨k1, k2, k3, k4, k5, k6, k7, k8, k9, k10, k11, k12, k13, k14, k15⟩ := pm_kdL ho
  obtain ⟨m1, m2, m3, m4, m5, m6, m7, m8, m9⟩ := pm_kdM (n := m) ho hm
  rw [← ea] at m1 m2 m3 m4 m5 m6 m7 m8 m9
  obtain ⟨hd, hl, ⟨c1, c2, c3, c4⟩, hlen, ⟨n1, n2, n3, n4⟩, ⟨s1, s2, s3⟩, ⟨t1, t2, t3⟩, ⟨h1, h2, h3⟩, ⟨u1, u2, u3⟩, ⟨e1, e2, e3⟩, ⟨p1, p2, p3⟩, ⟨r1, r2, r3⟩, ⟨d1, d2⟩⟩ := id H
  have kc : pm_kd (o + 10 + 55 + l) = 3 := pm_kdC ho hl
  have l0 : (l : Int) < 7 := by omega
  have hns := c_nextSign ho hm ea L Z W H
  have hro := c_readOn ho h c f L Z W hl u1 u2 u3 h2 h3 F
  have hn0 : 0 ≤ n := by
    rcases hd with ⟨-, q1, q2⟩ | ⟨-, q1, q2⟩
    · have := hlen bh (by omega) (by omega); omega
    · have := hlen bh (by omega) (by omega); omega
  have y2 : pm_up (pm_up Z (o + 10 + 55 + l) 0 (c + 1)) (a + 3) l 0 a = Z a := by rw [pm_up_row (by omega), pm_up_row (by omega)]
  have y3 : pm_up (pm_up Z (o + 10 + 55 + l) 0 (c + 1)) (a + 3) l 0 (a + 2) = Z (a + 2) := by rw [pm_up_row (by omega), pm_up_row (by omega)]
  have y4 : pm_up (pm_up Z (o + 10 + 55 + l) 0 (c + 1)) (a + 3) l 0 (a + 4) = Z (a + 4) := by rw [pm_up_row (by omega), pm_up_row (by omega)]
  have hpo := c_passOn (bf := bf) (bh := bh) (n := n) (h := h) (s := s) (st := st) (c := c) (e := e) (p := p) (er := er) ho hm ea L (pm_up (pm_up Z (o + 10 + 55 + l) 0 (c + 1)) (a + 3) l 0) W (by rw [y2]; exact hd) hl (by rw [y3]; exact n1) hn0 (by rw [y2]; exact n3) (by rw [y2]; exact n4) (by rw [y4]; exact h1)
  have z1 : pm_up (pm_up (pm_up (pm_up Z (o + 10 + 55 + l) 0 (c + 1)) (a + 3) l 0) (a + 1) (bh * 30 + n.toNat) h) (a + 2) bh (n + 1) (o + 10 + 55 + l) 2 = p := by
    rw [pm_up_row (by omega), pm_up_row (by omega), pm_up_row (by omega), pm_up_ne (by omega)]; exact p1
  have v1 : wC3 o a l bh n h c p Z a = Z a := by
    unfold wC3
    simp (disch := omega) only [pm_up_row]
  have v2 : wC3 o a l bh n h c p Z o = Z o := by
    unfold wC3
    simp (disch := omega) only [pm_up_row]
  have hto := hlen (Z a 1).toNat (by omega) (by omega)
  have v3 : pm_r (wC3 o a l bh n h c p Z (a + 2) (Z a 1).toNat) := by
    unfold wC3
    rw [pm_up_row (by omega)]
    by_cases q : (Z a 1).toNat = bh
    · rw [q, pm_up_same]; omega
    · rw [pm_up_ne (by omega), pm_up_row (by omega), pm_up_row (by omega), pm_up_row (by omega)]; omega
  have hw := c_isWhole a L (wC3 o a l bh n h c p Z) W m1 m4 m5 (by rw [v1]; omega) (by rw [v1]; omega) (by rw [v1]; exact v3) (by rw [v1]; omega)
  rw [v1] at hw
  have hmid : pm_D (33, 75, [.ref o, .int (pm_J (l : Int)), .ref a, .int (pm_J s)], [], pm_hp L (wC3 o a l bh n h c p Z) W) = some (none, pm_hp L (pm_up (if wC3 o a l bh n h c p Z (a + 2) (Z a 1).toNat < Z a 6 then wC3 o a l bh n h c p Z else pm_up (pm_up (wC3 o a l bh n h c p Z) a 7 1) a 9 (Z o 3)) o 11 0) W) := by
    have v2' : wC3 o a l bh n h c p Z o 3 = Z o 3 := by rw [v2]
    generalize wC3 o a l bh n h c p Z = V at hw v2' ⊢
    by_cases w : V (a + 2) (Z a 1).toNat < Z a 6
    · simp (disch := first | assumption | decide +kernel | omega | (split <;> omega)) only [q_33_0, q_33_1, q_33_2, q_33_3, q_33_6, q_33_7, q_33_8, q_33_12, q_33_15, q_33_16, q_33_19, q_33_20, q_33_21, q_33_22, q_33_25, q_33_26, q_33_27, q_33_30, q_33_31, q_33_32, q_33_35, q_33_36, q_33_37, q_33_40, q_33_41, q_33_44, q_33_45, q_33_46, q_33_47, q_33_48, q_33_49, q_33_52, q_33_53, q_33_54, q_33_55, q_33_56, q_33_57, q_33_60, q_33_61, q_33_64, q_33_65, q_33_66, q_33_67, q_33_70, q_33_71, q_33_72, q_33_75, q_33_76, q_33_79, q_33_82, q_33_83, q_33_84, q_33_87, q_33_90, q_33_91, q_33_94, pm_some, Option.toList_some, Option.toList_none, List.cons_append, List.nil_append, pm_i0, pm_i1, Nat.reduceAdd, Nat.reduceMul, Int.toNat_natCast, Int.toNat_zero, hw, w, not_true_eq_false, not_false_eq_true, and_self, true_and, and_true, ↓reduceIte, Int.reduceEq, Int.reduceLT, Int.reduceLE, Int.reduceNeg, Bool.false_eq_true, c_forgetTasks]
    · simp (disch := first | assumption | decide +kernel | omega | (split <;> omega)) only [q_33_0, q_33_1, q_33_2, q_33_3, q_33_6, q_33_7, q_33_8, q_33_12, q_33_15, q_33_16, q_33_19, q_33_20, q_33_21, q_33_22, q_33_25, q_33_26, q_33_27, q_33_30, q_33_31, q_33_32, q_33_35, q_33_36, q_33_37, q_33_40, q_33_41, q_33_44, q_33_45, q_33_46, q_33_47, q_33_48, q_33_49, q_33_52, q_33_53, q_33_54, q_33_55, q_33_56, q_33_57, q_33_60, q_33_61, q_33_64, q_33_65, q_33_66, q_33_67, q_33_70, q_33_71, q_33_72, q_33_75, q_33_76, q_33_79, q_33_82, q_33_83, q_33_84, q_33_87, q_33_90, q_33_91, q_33_94, pm_some, Option.toList_some, Option.toList_none, List.cons_append, List.nil_append, pm_i0, pm_i1, Nat.reduceAdd, Nat.reduceMul, Int.toNat_natCast, Int.toNat_zero, hw, w, not_true_eq_false, not_false_eq_true, and_self, true_and, and_true, ↓reduceIte, Int.reduceEq, Int.reduceLT, Int.reduceLE, Int.reduceNeg, Bool.false_eq_true, c_arrive, c_forgetTasks, v2']
  have hr' : pm_r s := by omega
  have hpre : pm_D (33, 0, [.ref o, .int (pm_J (l : Int)), .ref a, .int (pm_J s)], [], pm_hp L Z W) = pm_D (33, 75, [.ref o, .int (pm_J (l : Int)), .ref a, .int (pm_J s)], [], pm_hp L (wC3 o a l bh n h c p Z) W) := by
    simp (disch := first | assumption | decide +kernel | omega | (split <;> omega)) only [q_33_0, q_33_1, q_33_2, q_33_3, q_33_6, q_33_7, q_33_8, q_33_11, q_33_12, q_33_15, q_33_16, q_33_19, q_33_20, q_33_21, q_33_22, q_33_25, q_33_26, q_33_27, q_33_30, q_33_31, q_33_32, q_33_35, q_33_36, q_33_37, q_33_40, q_33_41, q_33_44, q_33_45, q_33_46, q_33_47, q_33_48, q_33_49, q_33_52, q_33_53, q_33_54, q_33_55, q_33_56, q_33_57, q_33_60, q_33_61, q_33_64, q_33_65, q_33_66, q_33_67, q_33_70, q_33_71, q_33_72, q_33_76, q_33_79, q_33_82, q_33_83, q_33_84, q_33_87, q_33_90, q_33_91, q_33_94, pm_some, Option.toList_some, Option.toList_none, List.cons_append, List.nil_append, pm_i0, pm_i1, Nat.reduceAdd, Nat.reduceMul, Int.toNat_natCast, Int.toNat_zero, h1, hro, heq, not_true_eq_false, not_false_eq_true, and_self, true_and, and_true, ↓reduceIte, Int.reduceEq, Int.reduceLT, Int.reduceLE, Int.reduceNeg, Bool.false_eq_true, hpo, z1]
    rfl
  rw [hpre]
  exact hmid

theorem c_work0 {o m a l bf bh : Nat} {n s st h c e p er f : Int} (ho : pm_isL o) (hm : m < 10) (ea : a = o + 9 + 6 + 5 * m) (L : Nat) (Z : Nat → Nat → Int) (W : Nat → Nat) (H : cw o a l bf bh n s st h c e p er Z) (F : cf o l c f Z) (hst : st = 0) : pm_D (31, 0, [.ref o, .int (pm_J (l : Int)), .ref a, .null, .null], [], pm_hp L Z W) = some (none, pm_hp L (wC0 o a l bf s Z) W) := by
  obtain ⟨k1, k2, k3, k4, k5, k6, k7, k8, k9, k10, k11, k12, k13, k14, k15⟩ := pm_kdL ho
  obtain ⟨m1, m2, m3, m4, m5, m6, m7, m8, m9⟩ := pm_kdM (n := m) ho hm
  rw [← ea] at m1 m2 m3 m4 m5 m6 m7 m8 m9
  obtain ⟨hd, hl, ⟨c1, c2, c3, c4⟩, hlen, ⟨n1, n2, n3, n4⟩, ⟨s1, s2, s3⟩, ⟨t1, t2, t3⟩, ⟨h1, h2, h3⟩, ⟨u1, u2, u3⟩, ⟨e1, e2, e3⟩, ⟨p1, p2, p3⟩, ⟨r1, r2, r3⟩, ⟨d1, d2⟩⟩ := id H
  have kc : pm_kd (o + 10 + 55 + l) = 3 := pm_kdC ho hl
  have l0 : (l : Int) < 7 := by omega
  have hns := c_nextSign ho hm ea L Z W H
  have r2' : pm_r (Z a 2) := by omega
  rcases id hd with ⟨g2, q1, q2⟩ | ⟨g2, q1, q2⟩
  · have f1 : ((l : Int) + 1).toNat = bf := by omega
    have f2 : l = bh := by omega
    subst hst
    simp (disch := first | assumption | decide +kernel | omega | (split <;> omega)) only [q_31_0, q_31_1, q_31_2, q_31_5, q_31_6, q_31_7, q_31_8, q_31_11, q_31_13, q_31_14, q_31_17, q_31_18, q_31_19, q_31_44, q_31_45, q_31_48, q_31_50, q_31_51, q_31_52, q_31_53, q_31_56, q_31_57, q_31_58, q_31_59, q_31_62, q_31_63, q_31_66, q_31_67, q_31_68, q_31_69, q_31_70, q_31_73, q_31_74, q_31_75, q_31_78, q_31_80, q_31_81, q_31_82, q_31_83, q_31_86, q_31_87, q_31_88, q_31_91, q_31_92, q_31_95, q_31_96, q_31_97, q_31_98, q_31_99, q_31_102, q_31_103, q_31_104, q_31_105, q_31_108, q_31_109, q_31_110, q_31_111, q_31_112, q_31_115, q_31_118, q_31_119, q_31_122, q_31_124, q_31_126, q_31_127, q_31_128, q_31_131, q_31_132, q_31_133, q_31_134, pm_some, Option.toList_some, Option.toList_none, List.cons_append, List.nil_append, pm_i0, pm_i1, Nat.reduceAdd, Nat.reduceMul, Int.toNat_natCast, Int.toNat_zero, hns, c_towerBefore, c_towerBehind, g2, t1, not_true_eq_false, not_false_eq_true, and_self, true_and, and_true, ↓reduceIte, Int.reduceEq, Int.reduceLT, Int.reduceLE, Int.reduceNeg, Bool.false_eq_true, f1]
    unfold wC0
    first | rfl | (rw [← f2])
  · have f1 : ((l : Int) + 1).toNat = bh := by omega
    have f2 : l = bf := by omega
    subst hst
    simp (disch := first | assumption | decide +kernel | omega | (split <;> omega)) only [q_31_0, q_31_1, q_31_2, q_31_5, q_31_6, q_31_7, q_31_8, q_31_11, q_31_13, q_31_14, q_31_17, q_31_18, q_31_19, q_31_44, q_31_45, q_31_48, q_31_50, q_31_51, q_31_52, q_31_53, q_31_56, q_31_57, q_31_58, q_31_59, q_31_62, q_31_63, q_31_66, q_31_67, q_31_68, q_31_69, q_31_70, q_31_73, q_31_74, q_31_75, q_31_78, q_31_80, q_31_81, q_31_82, q_31_83, q_31_86, q_31_87, q_31_88, q_31_91, q_31_92, q_31_95, q_31_96, q_31_97, q_31_98, q_31_99, q_31_102, q_31_103, q_31_104, q_31_105, q_31_108, q_31_109, q_31_110, q_31_111, q_31_112, q_31_115, q_31_118, q_31_119, q_31_122, q_31_124, q_31_126, q_31_127, q_31_128, q_31_131, q_31_132, q_31_133, q_31_134, pm_some, Option.toList_some, Option.toList_none, List.cons_append, List.nil_append, pm_i0, pm_i1, Nat.reduceAdd, Nat.reduceMul, Int.toNat_natCast, Int.toNat_zero, hns, c_towerBefore, c_towerBehind, g2, t1, not_true_eq_false, not_false_eq_true, and_self, true_and, and_true, ↓reduceIte, Int.reduceEq, Int.reduceLT, Int.reduceLE, Int.reduceNeg, Bool.false_eq_true, f1]
    unfold wC0
    first | rfl | (rw [← f2])

theorem c_work1 {o m a l bf bh : Nat} {n s st h c e p er f : Int} (ho : pm_isL o) (hm : m < 10) (ea : a = o + 9 + 6 + 5 * m) (L : Nat) (Z : Nat → Nat → Int) (W : Nat → Nat) (H : cw o a l bf bh n s st h c e p er Z) (F : cf o l c f Z) (hst : st = 1) : pm_D (31, 0, [.ref o, .int (pm_J (l : Int)), .ref a, .null, .null], [], pm_hp L Z W) = some (none, pm_hp L (wC1 o a l bf bh s ((s + f) % 100) c Z) W) := by
  obtain ⟨k1, k2, k3, k4, k5, k6, k7, k8, k9, k10, k11, k12, k13, k14, k15⟩ := pm_kdL ho
  obtain ⟨m1, m2, m3, m4, m5, m6, m7, m8, m9⟩ := pm_kdM (n := m) ho hm
  rw [← ea] at m1 m2 m3 m4 m5 m6 m7 m8 m9
  obtain ⟨hd, hl, ⟨c1, c2, c3, c4⟩, hlen, ⟨n1, n2, n3, n4⟩, ⟨s1, s2, s3⟩, ⟨t1, t2, t3⟩, ⟨h1, h2, h3⟩, ⟨u1, u2, u3⟩, ⟨e1, e2, e3⟩, ⟨p1, p2, p3⟩, ⟨r1, r2, r3⟩, ⟨d1, d2⟩⟩ := id H
  have kc : pm_kd (o + 10 + 55 + l) = 3 := pm_kdC ho hl
  have l0 : (l : Int) < 7 := by omega
  have hns := c_nextSign ho hm ea L Z W H
  have r2' : pm_r (Z a 2) := by omega
  rcases id hd with ⟨g2, q1, q2⟩ | ⟨g2, q1, q2⟩
  · have f1 : ((l : Int) + 1).toNat = bf := by omega
    have f2 : l = bh := by omega
    subst hst
    have hro := c_readOn ho s c f L Z W hl u1 u2 u3 s2 s3 F
    have ya : ∀ v w, pm_up (pm_up (pm_up Z (o + 10 + 55 + l) 0 (c + 1)) (a + 4) l v) (o + 11) bf w a = Z a := fun v w => by rw [pm_up_row (by omega), pm_up_row (by omega), pm_up_row (by omega)]
    have yb : ∀ v w, pm_up (pm_up (pm_up Z (o + 10 + 55 + l) 0 (c + 1)) (a + 4) l v) (o + 11) bf w (a + 4) l = v := fun v w => by rw [pm_up_row (by omega), pm_up_same]
    have yc : ∀ v w, pm_up (pm_up (pm_up Z (o + 10 + 55 + l) 0 (c + 1)) (a + 4) l v) (o + 11) l w a = Z a := fun v w => by rw [pm_up_row (by omega), pm_up_row (by omega), pm_up_row (by omega)]
    have yd : ∀ v w, pm_up (pm_up (pm_up Z (o + 10 + 55 + l) 0 (c + 1)) (a + 4) l v) (o + 11) l w (a + 4) l = v := fun v w => by rw [pm_up_row (by omega), pm_up_same]
    have hb1 : ∀ v w, pm_D (46, 0, [.ref a, .int (pm_J (l : Int))], [], pm_hp L (pm_up (pm_up (pm_up Z (o + 10 + 55 + l) 0 (c + 1)) (a + 4) l v) (o + 11) bf w) W) = some (some (.int (pm_J (if Z a 2 = 0 then (l : Int) else (l : Int) + 1))), pm_hp L (pm_up (pm_up (pm_up Z (o + 10 + 55 + l) 0 (c + 1)) (a + 4) l v) (o + 11) bf w) W) := fun v w => by
      have := c_towerBehind a (l : Int) L (pm_up (pm_up (pm_up Z (o + 10 + 55 + l) 0 (c + 1)) (a + 4) l v) (o + 11) bf w) W m1 (by rw [ya]; exact r2')
      rw [ya] at this
      exact this
    have hb2 : ∀ v w, pm_D (46, 0, [.ref a, .int (pm_J (l : Int))], [], pm_hp L (pm_up (pm_up (pm_up Z (o + 10 + 55 + l) 0 (c + 1)) (a + 4) l v) (o + 11) l w) W) = some (some (.int (pm_J (if Z a 2 = 0 then (l : Int) else (l : Int) + 1))), pm_hp L (pm_up (pm_up (pm_up Z (o + 10 + 55 + l) 0 (c + 1)) (a + 4) l v) (o + 11) l w) W) := fun v w => by
      have := c_towerBehind a (l : Int) L (pm_up (pm_up (pm_up Z (o + 10 + 55 + l) 0 (c + 1)) (a + 4) l v) (o + 11) l w) W m1 (by rw [yc]; exact r2')
      rw [yc] at this
      exact this
    simp (disch := first | assumption | decide +kernel | omega | (split <;> omega)) only [q_31_0, q_31_1, q_31_2, q_31_5, q_31_6, q_31_7, q_31_8, q_31_11, q_31_13, q_31_14, q_31_17, q_31_18, q_31_19, q_31_44, q_31_45, q_31_48, q_31_50, q_31_51, q_31_52, q_31_53, q_31_56, q_31_57, q_31_58, q_31_59, q_31_62, q_31_63, q_31_66, q_31_67, q_31_68, q_31_69, q_31_70, q_31_73, q_31_74, q_31_75, q_31_78, q_31_80, q_31_81, q_31_82, q_31_83, q_31_86, q_31_87, q_31_88, q_31_91, q_31_92, q_31_95, q_31_96, q_31_97, q_31_98, q_31_99, q_31_102, q_31_103, q_31_104, q_31_105, q_31_108, q_31_109, q_31_110, q_31_111, q_31_112, q_31_115, q_31_118, q_31_119, q_31_122, q_31_124, q_31_126, q_31_127, q_31_128, q_31_131, q_31_132, q_31_133, q_31_134, pm_some, Option.toList_some, Option.toList_none, List.cons_append, List.nil_append, pm_i0, pm_i1, Nat.reduceAdd, Nat.reduceMul, Int.toNat_natCast, Int.toNat_zero, hns, hro, c_towerBefore, hb1, hb2, g2, t1, not_true_eq_false, not_false_eq_true, and_self, true_and, and_true, ↓reduceIte, Int.reduceEq, Int.reduceLT, Int.reduceLE, Int.reduceNeg, Bool.false_eq_true, f1, yb, yd]
    unfold wC1
    first | rfl | (rw [← f2])
  · have f1 : ((l : Int) + 1).toNat = bh := by omega
    have f2 : l = bf := by omega
    subst hst
    have hro := c_readOn ho s c f L Z W hl u1 u2 u3 s2 s3 F
    have ya : ∀ v w, pm_up (pm_up (pm_up Z (o + 10 + 55 + l) 0 (c + 1)) (a + 4) l v) (o + 11) bf w a = Z a := fun v w => by rw [pm_up_row (by omega), pm_up_row (by omega), pm_up_row (by omega)]
    have yb : ∀ v w, pm_up (pm_up (pm_up Z (o + 10 + 55 + l) 0 (c + 1)) (a + 4) l v) (o + 11) bf w (a + 4) l = v := fun v w => by rw [pm_up_row (by omega), pm_up_same]
    have yc : ∀ v w, pm_up (pm_up (pm_up Z (o + 10 + 55 + l) 0 (c + 1)) (a + 4) l v) (o + 11) l w a = Z a := fun v w => by rw [pm_up_row (by omega), pm_up_row (by omega), pm_up_row (by omega)]
    have yd : ∀ v w, pm_up (pm_up (pm_up Z (o + 10 + 55 + l) 0 (c + 1)) (a + 4) l v) (o + 11) l w (a + 4) l = v := fun v w => by rw [pm_up_row (by omega), pm_up_same]
    have hb1 : ∀ v w, pm_D (46, 0, [.ref a, .int (pm_J (l : Int))], [], pm_hp L (pm_up (pm_up (pm_up Z (o + 10 + 55 + l) 0 (c + 1)) (a + 4) l v) (o + 11) bf w) W) = some (some (.int (pm_J (if Z a 2 = 0 then (l : Int) else (l : Int) + 1))), pm_hp L (pm_up (pm_up (pm_up Z (o + 10 + 55 + l) 0 (c + 1)) (a + 4) l v) (o + 11) bf w) W) := fun v w => by
      have := c_towerBehind a (l : Int) L (pm_up (pm_up (pm_up Z (o + 10 + 55 + l) 0 (c + 1)) (a + 4) l v) (o + 11) bf w) W m1 (by rw [ya]; exact r2')
      rw [ya] at this
      exact this
    have hb2 : ∀ v w, pm_D (46, 0, [.ref a, .int (pm_J (l : Int))], [], pm_hp L (pm_up (pm_up (pm_up Z (o + 10 + 55 + l) 0 (c + 1)) (a + 4) l v) (o + 11) l w) W) = some (some (.int (pm_J (if Z a 2 = 0 then (l : Int) else (l : Int) + 1))), pm_hp L (pm_up (pm_up (pm_up Z (o + 10 + 55 + l) 0 (c + 1)) (a + 4) l v) (o + 11) l w) W) := fun v w => by
      have := c_towerBehind a (l : Int) L (pm_up (pm_up (pm_up Z (o + 10 + 55 + l) 0 (c + 1)) (a + 4) l v) (o + 11) l w) W m1 (by rw [yc]; exact r2')
      rw [yc] at this
      exact this
    simp (disch := first | assumption | decide +kernel | omega | (split <;> omega)) only [q_31_0, q_31_1, q_31_2, q_31_5, q_31_6, q_31_7, q_31_8, q_31_11, q_31_13, q_31_14, q_31_17, q_31_18, q_31_19, q_31_44, q_31_45, q_31_48, q_31_50, q_31_51, q_31_52, q_31_53, q_31_56, q_31_57, q_31_58, q_31_59, q_31_62, q_31_63, q_31_66, q_31_67, q_31_68, q_31_69, q_31_70, q_31_73, q_31_74, q_31_75, q_31_78, q_31_80, q_31_81, q_31_82, q_31_83, q_31_86, q_31_87, q_31_88, q_31_91, q_31_92, q_31_95, q_31_96, q_31_97, q_31_98, q_31_99, q_31_102, q_31_103, q_31_104, q_31_105, q_31_108, q_31_109, q_31_110, q_31_111, q_31_112, q_31_115, q_31_118, q_31_119, q_31_122, q_31_124, q_31_126, q_31_127, q_31_128, q_31_131, q_31_132, q_31_133, q_31_134, pm_some, Option.toList_some, Option.toList_none, List.cons_append, List.nil_append, pm_i0, pm_i1, Nat.reduceAdd, Nat.reduceMul, Int.toNat_natCast, Int.toNat_zero, hns, hro, c_towerBefore, hb1, hb2, g2, t1, not_true_eq_false, not_false_eq_true, and_self, true_and, and_true, ↓reduceIte, Int.reduceEq, Int.reduceLT, Int.reduceLE, Int.reduceNeg, Bool.false_eq_true, f1, yb, yd]
    unfold wC1
    first | rfl | (rw [← f2])

theorem c_work4 {o m a l bf bh : Nat} {n s st h c e p er f : Int} (ho : pm_isL o) (hm : m < 10) (ea : a = o + 9 + 6 + 5 * m) (L : Nat) (Z : Nat → Nat → Int) (W : Nat → Nat) (H : cw o a l bf bh n s st h c e p er Z) (F : cf o l c f Z) (hst : st = 3) : pm_D (31, 0, [.ref o, .int (pm_J (l : Int)), .ref a, .null, .null], [], pm_hp L Z W) = some (none, pm_hp L (wC4 o a l bf Z) W) := by
  obtain ⟨k1, k2, k3, k4, k5, k6, k7, k8, k9, k10, k11, k12, k13, k14, k15⟩ := pm_kdL ho
  obtain ⟨m1, m2, m3, m4, m5, m6, m7, m8, m9⟩ := pm_kdM (n := m) ho hm
  rw [← ea] at m1 m2 m3 m4 m5 m6 m7 m8 m9
  obtain ⟨hd, hl, ⟨c1, c2, c3, c4⟩, hlen, ⟨n1, n2, n3, n4⟩, ⟨s1, s2, s3⟩, ⟨t1, t2, t3⟩, ⟨h1, h2, h3⟩, ⟨u1, u2, u3⟩, ⟨e1, e2, e3⟩, ⟨p1, p2, p3⟩, ⟨r1, r2, r3⟩, ⟨d1, d2⟩⟩ := id H
  have kc : pm_kd (o + 10 + 55 + l) = 3 := pm_kdC ho hl
  have l0 : (l : Int) < 7 := by omega
  have hns := c_nextSign ho hm ea L Z W H
  have r2' : pm_r (Z a 2) := by omega
  rcases id hd with ⟨g2, q1, q2⟩ | ⟨g2, q1, q2⟩
  · have f1 : ((l : Int) + 1).toNat = bf := by omega
    have f2 : l = bh := by omega
    subst hst
    simp (disch := first | assumption | decide +kernel | omega | (split <;> omega)) only [q_31_0, q_31_1, q_31_2, q_31_5, q_31_6, q_31_7, q_31_8, q_31_11, q_31_13, q_31_14, q_31_17, q_31_18, q_31_19, q_31_44, q_31_45, q_31_48, q_31_50, q_31_51, q_31_52, q_31_53, q_31_56, q_31_57, q_31_58, q_31_59, q_31_62, q_31_63, q_31_66, q_31_67, q_31_68, q_31_69, q_31_70, q_31_73, q_31_74, q_31_75, q_31_78, q_31_80, q_31_81, q_31_82, q_31_83, q_31_86, q_31_87, q_31_88, q_31_91, q_31_92, q_31_95, q_31_96, q_31_97, q_31_98, q_31_99, q_31_102, q_31_103, q_31_104, q_31_105, q_31_108, q_31_109, q_31_110, q_31_111, q_31_112, q_31_115, q_31_118, q_31_119, q_31_122, q_31_124, q_31_126, q_31_127, q_31_128, q_31_131, q_31_132, q_31_133, q_31_134, pm_some, Option.toList_some, Option.toList_none, List.cons_append, List.nil_append, pm_i0, pm_i1, Nat.reduceAdd, Nat.reduceMul, Int.toNat_natCast, Int.toNat_zero, hns, c_towerBefore, c_towerBehind, g2, t1, not_true_eq_false, not_false_eq_true, and_self, true_and, and_true, ↓reduceIte, Int.reduceEq, Int.reduceLT, Int.reduceLE, Int.reduceNeg, Bool.false_eq_true, f1]
    unfold wC4
    first | rfl | (rw [← f2])
  · have f1 : ((l : Int) + 1).toNat = bh := by omega
    have f2 : l = bf := by omega
    subst hst
    simp (disch := first | assumption | decide +kernel | omega | (split <;> omega)) only [q_31_0, q_31_1, q_31_2, q_31_5, q_31_6, q_31_7, q_31_8, q_31_11, q_31_13, q_31_14, q_31_17, q_31_18, q_31_19, q_31_44, q_31_45, q_31_48, q_31_50, q_31_51, q_31_52, q_31_53, q_31_56, q_31_57, q_31_58, q_31_59, q_31_62, q_31_63, q_31_66, q_31_67, q_31_68, q_31_69, q_31_70, q_31_73, q_31_74, q_31_75, q_31_78, q_31_80, q_31_81, q_31_82, q_31_83, q_31_86, q_31_87, q_31_88, q_31_91, q_31_92, q_31_95, q_31_96, q_31_97, q_31_98, q_31_99, q_31_102, q_31_103, q_31_104, q_31_105, q_31_108, q_31_109, q_31_110, q_31_111, q_31_112, q_31_115, q_31_118, q_31_119, q_31_122, q_31_124, q_31_126, q_31_127, q_31_128, q_31_131, q_31_132, q_31_133, q_31_134, pm_some, Option.toList_some, Option.toList_none, List.cons_append, List.nil_append, pm_i0, pm_i1, Nat.reduceAdd, Nat.reduceMul, Int.toNat_natCast, Int.toNat_zero, hns, c_towerBefore, c_towerBehind, g2, t1, not_true_eq_false, not_false_eq_true, and_self, true_and, and_true, ↓reduceIte, Int.reduceEq, Int.reduceLT, Int.reduceLE, Int.reduceNeg, Bool.false_eq_true, f1]
    unfold wC4
    first | rfl | (rw [← f2])

theorem c_work2 {o m a l bf bh : Nat} {n s st h c e p er f : Int} (ho : pm_isL o) (hm : m < 10) (ea : a = o + 9 + 6 + 5 * m) (L : Nat) (Z : Nat → Nat → Int) (W : Nat → Nat) (H : cw o a l bf bh n s st h c e p er Z) (F : cf o l c f Z) (hst : st = 2) (hne : ¬ (h + f) % 100 = s) : pm_D (31, 0, [.ref o, .int (pm_J (l : Int)), .ref a, .null, .null], [], pm_hp L Z W) = some (none, pm_hp L (wC2 o a l c e er Z) W) := by
  obtain ⟨k1, k2, k3, k4, k5, k6, k7, k8, k9, k10, k11, k12, k13, k14, k15⟩ := pm_kdL ho
  obtain ⟨m1, m2, m3, m4, m5, m6, m7, m8, m9⟩ := pm_kdM (n := m) ho hm
  rw [← ea] at m1 m2 m3 m4 m5 m6 m7 m8 m9
  obtain ⟨hd, hl, ⟨c1, c2, c3, c4⟩, hlen, ⟨n1, n2, n3, n4⟩, ⟨s1, s2, s3⟩, ⟨t1, t2, t3⟩, ⟨h1, h2, h3⟩, ⟨u1, u2, u3⟩, ⟨e1, e2, e3⟩, ⟨p1, p2, p3⟩, ⟨r1, r2, r3⟩, ⟨d1, d2⟩⟩ := id H
  have kc : pm_kd (o + 10 + 55 + l) = 3 := pm_kdC ho hl
  have l0 : (l : Int) < 7 := by omega
  have hns := c_nextSign ho hm ea L Z W H
  have r2' : pm_r (Z a 2) := by omega
  have hcmp := c_compare2 ho hm ea L Z W H F hne
  subst hst
  rcases id hd with ⟨g2, q1, q2⟩ | ⟨g2, q1, q2⟩
  · simp (disch := first | assumption | decide +kernel | omega | (split <;> omega)) only [q_31_0, q_31_1, q_31_2, q_31_5, q_31_6, q_31_7, q_31_8, q_31_11, q_31_13, q_31_14, q_31_17, q_31_18, q_31_19, q_31_44, q_31_45, q_31_48, q_31_50, q_31_51, q_31_52, q_31_53, q_31_56, q_31_57, q_31_58, q_31_59, q_31_62, q_31_63, q_31_66, q_31_67, q_31_68, q_31_69, q_31_70, q_31_73, q_31_74, q_31_75, q_31_78, q_31_80, q_31_81, q_31_82, q_31_83, q_31_86, q_31_87, q_31_88, q_31_91, q_31_92, q_31_95, q_31_96, q_31_97, q_31_98, q_31_99, q_31_102, q_31_103, q_31_104, q_31_105, q_31_108, q_31_109, q_31_110, q_31_111, q_31_112, q_31_115, q_31_118, q_31_119, q_31_122, q_31_124, q_31_126, q_31_127, q_31_128, q_31_131, q_31_132, q_31_133, q_31_134, pm_some, Option.toList_some, Option.toList_none, List.cons_append, List.nil_append, pm_i0, pm_i1, Nat.reduceAdd, Nat.reduceMul, Int.toNat_natCast, Int.toNat_zero, hns, c_towerBefore, c_towerBehind, g2, t1, not_true_eq_false, not_false_eq_true, and_self, true_and, and_true, ↓reduceIte, Int.reduceEq, Int.reduceLT, Int.reduceLE, Int.reduceNeg, Bool.false_eq_true, hcmp]
  · simp (disch := first | assumption | decide +kernel | omega | (split <;> omega)) only [q_31_0, q_31_1, q_31_2, q_31_5, q_31_6, q_31_7, q_31_8, q_31_11, q_31_13, q_31_14, q_31_17, q_31_18, q_31_19, q_31_44, q_31_45, q_31_48, q_31_50, q_31_51, q_31_52, q_31_53, q_31_56, q_31_57, q_31_58, q_31_59, q_31_62, q_31_63, q_31_66, q_31_67, q_31_68, q_31_69, q_31_70, q_31_73, q_31_74, q_31_75, q_31_78, q_31_80, q_31_81, q_31_82, q_31_83, q_31_86, q_31_87, q_31_88, q_31_91, q_31_92, q_31_95, q_31_96, q_31_97, q_31_98, q_31_99, q_31_102, q_31_103, q_31_104, q_31_105, q_31_108, q_31_109, q_31_110, q_31_111, q_31_112, q_31_115, q_31_118, q_31_119, q_31_122, q_31_124, q_31_126, q_31_127, q_31_128, q_31_131, q_31_132, q_31_133, q_31_134, pm_some, Option.toList_some, Option.toList_none, List.cons_append, List.nil_append, pm_i0, pm_i1, Nat.reduceAdd, Nat.reduceMul, Int.toNat_natCast, Int.toNat_zero, hns, c_towerBefore, c_towerBehind, g2, t1, not_true_eq_false, not_false_eq_true, and_self, true_and, and_true, ↓reduceIte, Int.reduceEq, Int.reduceLT, Int.reduceLE, Int.reduceNeg, Bool.false_eq_true, hcmp]

theorem c_work3 {o m a l bf bh : Nat} {n s st h c e p er f : Int} (ho : pm_isL o) (hm : m < 10) (ea : a = o + 9 + 6 + 5 * m) (L : Nat) (Z : Nat → Nat → Int) (W : Nat → Nat) (H : cw o a l bf bh n s st h c e p er Z) (F : cf o l c f Z) (hst : st = 2) (heq : (h + f) % 100 = s) : pm_D (31, 0, [.ref o, .int (pm_J (l : Int)), .ref a, .null, .null], [], pm_hp L Z W) = some (none, pm_hp L (pm_up (if wC3 o a l bh n h c p Z (a + 2) (Z a 1).toNat < Z a 6 then wC3 o a l bh n h c p Z else pm_up (pm_up (wC3 o a l bh n h c p Z) a 7 1) a 9 (Z o 3)) o 11 0) W) := by
  obtain ⟨k1, k2, k3, k4, k5, k6, k7, k8, k9, k10, k11, k12, k13, k14, k15⟩ := pm_kdL ho
  obtain ⟨m1, m2, m3, m4, m5, m6, m7, m8, m9⟩ := pm_kdM (n := m) ho hm
  rw [← ea] at m1 m2 m3 m4 m5 m6 m7 m8 m9
  obtain ⟨hd, hl, ⟨c1, c2, c3, c4⟩, hlen, ⟨n1, n2, n3, n4⟩, ⟨s1, s2, s3⟩, ⟨t1, t2, t3⟩, ⟨h1, h2, h3⟩, ⟨u1, u2, u3⟩, ⟨e1, e2, e3⟩, ⟨p1, p2, p3⟩, ⟨r1, r2, r3⟩, ⟨d1, d2⟩⟩ := id H
  have kc : pm_kd (o + 10 + 55 + l) = 3 := pm_kdC ho hl
  have l0 : (l : Int) < 7 := by omega
  have hns := c_nextSign ho hm ea L Z W H
  have r2' : pm_r (Z a 2) := by omega
  have hcmp := c_compare3 ho hm ea L Z W H F heq
  subst hst
  rcases id hd with ⟨g2, q1, q2⟩ | ⟨g2, q1, q2⟩
  · simp (disch := first | assumption | decide +kernel | omega | (split <;> omega)) only [q_31_0, q_31_1, q_31_2, q_31_5, q_31_6, q_31_7, q_31_8, q_31_11, q_31_13, q_31_14, q_31_17, q_31_18, q_31_19, q_31_44, q_31_45, q_31_48, q_31_50, q_31_51, q_31_52, q_31_53, q_31_56, q_31_57, q_31_58, q_31_59, q_31_62, q_31_63, q_31_66, q_31_67, q_31_68, q_31_69, q_31_70, q_31_73, q_31_74, q_31_75, q_31_78, q_31_80, q_31_81, q_31_82, q_31_83, q_31_86, q_31_87, q_31_88, q_31_91, q_31_92, q_31_95, q_31_96, q_31_97, q_31_98, q_31_99, q_31_102, q_31_103, q_31_104, q_31_105, q_31_108, q_31_109, q_31_110, q_31_111, q_31_112, q_31_115, q_31_118, q_31_119, q_31_122, q_31_124, q_31_126, q_31_127, q_31_128, q_31_131, q_31_132, q_31_133, q_31_134, pm_some, Option.toList_some, Option.toList_none, List.cons_append, List.nil_append, pm_i0, pm_i1, Nat.reduceAdd, Nat.reduceMul, Int.toNat_natCast, Int.toNat_zero, hns, c_towerBefore, c_towerBehind, g2, t1, not_true_eq_false, not_false_eq_true, and_self, true_and, and_true, ↓reduceIte, Int.reduceEq, Int.reduceLT, Int.reduceLE, Int.reduceNeg, Bool.false_eq_true, hcmp]
  · simp (disch := first | assumption | decide +kernel | omega | (split <;> omega)) only [q_31_0, q_31_1, q_31_2, q_31_5, q_31_6, q_31_7, q_31_8, q_31_11, q_31_13, q_31_14, q_31_17, q_31_18, q_31_19, q_31_44, q_31_45, q_31_48, q_31_50, q_31_51, q_31_52, q_31_53, q_31_56, q_31_57, q_31_58, q_31_59, q_31_62, q_31_63, q_31_66, q_31_67, q_31_68, q_31_69, q_31_70, q_31_73, q_31_74, q_31_75, q_31_78, q_31_80, q_31_81, q_31_82, q_31_83, q_31_86, q_31_87, q_31_88, q_31_91, q_31_92, q_31_95, q_31_96, q_31_97, q_31_98, q_31_99, q_31_102, q_31_103, q_31_104, q_31_105, q_31_108, q_31_109, q_31_110, q_31_111, q_31_112, q_31_115, q_31_118, q_31_119, q_31_122, q_31_124, q_31_126, q_31_127, q_31_128, q_31_131, q_31_132, q_31_133, q_31_134, pm_some, Option.toList_some, Option.toList_none, List.cons_append, List.nil_append, pm_i0, pm_i1, Nat.reduceAdd, Nat.reduceMul, Int.toNat_natCast, Int.toNat_zero, hns, c_towerBefore, c_towerBehind, g2, t1, not_true_eq_false, not_false_eq_true, and_self, true_and, and_true, ↓reduceIte, Int.reduceEq, Int.reduceLT, Int.reduceLE, Int.reduceNeg, Bool.false_eq_true, hcmp]

/-- what the model's work on link l for message m looks at -/
def rw_ (m l bf bh : Nat) (n s st h c e p er : Int) (Z : Nat → Nat → Int) : Prop :=
  ((¬ Z 205 m < Z 206 m ∧ bf = l + 1 ∧ bh = l) ∨ (Z 205 m < Z 206 m ∧ bf = l ∧ bh = l + 1)) ∧ l < 7 ∧ m < 10 ∧ (pm_r (Z 205 m) ∧ pm_r (Z 206 m)) ∧
  (Z 191 (31 + 8 * m + bh) = n ∧ 0 ≤ n ∧ n < 30) ∧ (Z 191 (311 + 30 * (8 * m + bf) + n.toNat) = s ∧ 0 ≤ s ∧ s ≤ 99) ∧ (Z 191 (111 + 8 * m + l) = st ∧ 0 ≤ st ∧ st ≤ 3) ∧ (Z 191 (191 + 8 * m + l) = h ∧ 0 ≤ h ∧ h ≤ 99) ∧
  (Z 191 (271 + 4 * l) = c ∧ 0 ≤ c ∧ c ≤ 1000000) ∧ (Z 191 (271 + 4 * l + 1) = e ∧ 0 ≤ e ∧ e ≤ 1000000) ∧ (Z 191 (271 + 4 * l + 2) = p ∧ 0 ≤ p ∧ p ≤ 1000000) ∧ (Z 191 (21 + m) = er ∧ 0 ≤ er ∧ er ≤ 10000000)
def rf (l : Nat) (c f : Int) (Z : Nat → Nat → Int) : Prop :=
  (0 ≤ Z 190 9 ∧ Z 190 9 ≤ 16) ∧ (∀ k : Nat, (k : Int) < Z 190 9 → pm_r (Z 196 k) ∧ pm_r (Z 197 k)) ∧ pm_r (Z 190 29) ∧ (if Z 190 29 < 0 then md_of (Z 196) (Z 197) (Z 198) l (c + 1) (Z 190 9).toNat 0 else 0) = f ∧ 0 ≤ f ∧ f ≤ 99
def wR0 (m l bf : Nat) (s : Int) (Z : Nat → Nat → Int) := pm_up (pm_up Z 191 (303 + bf) s) 191 (111 + 8 * m + l) 1
def wR1 (m l bf bh : Nat) (s x c : Int) (Z : Nat → Nat → Int) := pm_up (pm_up (pm_up (pm_up (pm_up Z 191 (271 + 4 * l) (c + 1)) 191 (191 + 8 * m + l) x) 191 (303 + bf) s) 191 (303 + bh) x) 191 (111 + 8 * m + l) 2
def wR2 (m l : Nat) (c e er : Int) (Z : Nat → Nat → Int) := pm_up (pm_up (pm_up (pm_up Z 191 (271 + 4 * l) (c + 1)) 191 (271 + 4 * l + 1) (e + 1)) 191 (21 + m) (er + 1)) 191 (111 + 8 * m + l) 3
def wR3 (m l bh : Nat) (n h c p : Int) (Z : Nat → Nat → Int) := pm_up (pm_up (pm_up (pm_up (pm_up Z 191 (271 + 4 * l) (c + 1)) 191 (311 + 30 * (8 * m + bh) + n.toNat) h) 191 (31 + 8 * m + bh) (n + 1)) 191 (271 + 4 * l + 2) (p + 1)) 191 (111 + 8 * m + l) 0
def wR4 (m l bf : Nat) (Z : Nat → Nat → Int) := pm_up (pm_up Z 191 (303 + bf) 99) 191 (111 + 8 * m + l) 0
theorem c_R_read {l : Nat} (x c f : Int) (L : Nat) (Z : Nat → Nat → Int) (W : Nat → Nat) (hl : l < 7) (hc : Z 191 (271 + 4 * l) = c) (c0 : 0 ≤ c) (c1 : c ≤ 1000000) (x0 : 0 ≤ x) (x1 : x ≤ 99) (H : rf l c f Z) : pm_D (154, 0, [.ref 190, .int (pm_J (l : Int)), .int (pm_J x), .null], [], pm_hp L Z W) = some (some (.int (pm_J ((x + f) % 100))), pm_hp L (pm_up Z 191 (271 + 4 * l) (c + 1)) W) := by
  obtain ⟨⟨g1, g2⟩, hv, ho, hf, f0, f1⟩ := H
  have r0 : pm_up Z 191 (271 + 4 * l) (c + 1) 190 = Z 190 := pm_up_row (by omega)
  have r1 : pm_up Z 191 (271 + 4 * l) (c + 1) 196 = Z 196 := pm_up_row (by omega)
  have r2 : pm_up Z 191 (271 + 4 * l) (c + 1) 197 = Z 197 := pm_up_row (by omega)
  have r3 : pm_up Z 191 (271 + 4 * l) (c + 1) 198 = Z 198 := pm_up_row (by omega)
  have q : (271 + 4 * (l : Int)).toNat = 271 + 4 * l := by omega
  have hof := c_R_offsetOf (l : Int) (c + 1) L (pm_up Z 191 (271 + 4 * l) (c + 1)) W (by omega) (by omega) (by rw [r0]; exact g1) (by rw [r0]; exact g2) (by rw [r0, r1, r2]; exact hv)
  rw [r0, r1, r2, r3] at hof
  by_cases h1 : Z 190 29 < 0
  · rw [if_pos h1] at hf
    rw [hf] at hof
    have h1' : ¬ 0 ≤ Z 190 29 := by omega
    simp (disch := first | assumption | decide +kernel | omega | (split <;> omega)) only [q_154_0, q_154_3, q_154_4, q_154_5, q_154_6, q_154_7, q_154_8, q_154_9, q_154_12, q_154_13, q_154_14, q_154_15, q_154_16, q_154_17, q_154_18, q_154_19, q_154_20, q_154_23, q_154_26, q_154_27, q_154_28, q_154_29, q_154_32, q_154_33, q_154_34, q_154_37, q_154_40, q_154_41, q_154_42, q_154_44, q_154_45, pm_some, Option.toList_some, Option.toList_none, List.cons_append, List.nil_append, pm_i0, pm_i1, Nat.reduceAdd, Nat.reduceMul, Int.toNat_natCast, Int.toNat_zero, q, hc, r0, h1, h1', not_true_eq_false, not_false_eq_true, and_self, true_and, and_true, ↓reduceIte, Int.reduceEq, Int.reduceLT, Int.reduceLE, Int.reduceNeg, Bool.false_eq_true, hof, pm_up_same]
  · rw [if_neg h1] at hf
    have h1' : 0 ≤ Z 190 29 := by omega
    subst hf
    simp (disch := first | assumption | decide +kernel | omega | (split <;> omega)) only [q_154_0, q_154_3, q_154_4, q_154_5, q_154_6, q_154_7, q_154_8, q_154_9, q_154_12, q_154_13, q_154_14, q_154_15, q_154_16, q_154_17, q_154_18, q_154_19, q_154_20, q_154_23, q_154_26, q_154_27, q_154_28, q_154_29, q_154_32, q_154_33, q_154_34, q_154_37, q_154_40, q_154_41, q_154_42, q_154_44, q_154_45, pm_some, Option.toList_some, Option.toList_none, List.cons_append, List.nil_append, pm_i0, pm_i1, Nat.reduceAdd, Nat.reduceMul, Int.toNat_natCast, Int.toNat_zero, q, hc, r0, h1, h1', not_true_eq_false, not_false_eq_true, and_self, true_and, and_true, ↓reduceIte, Int.reduceEq, Int.reduceLT, Int.reduceLE, Int.reduceNeg, Bool.false_eq_true, pm_up_same]
theorem c_R_append (m t : Nat) (n x : Int) (L : Nat) (Z : Nat → Nat → Int) (W : Nat → Nat) (hm : m < 10) (ht : t < 8) (hn : Z 191 (31 + 8 * m + t) = n) (n0 : 0 ≤ n) (n1 : n < 30) : pm_D (130, 0, [.ref 190, .int (pm_J (m : Int)), .int (pm_J (t : Int)), .int (pm_J x), .null], [], pm_hp L Z W) = some (none, pm_hp L (pm_up (pm_up Z 191 (311 + 30 * (8 * m + t) + n.toNat) x) 191 (31 + 8 * m + t) (n + 1)) W) := by
  have q1 : (31 + 8 * (m : Int) + (t : Int)).toNat = 31 + 8 * m + t := by omega
  have q2 : (311 + 30 * (8 * (m : Int) + (t : Int)) + n).toNat = 311 + 30 * (8 * m + t) + n.toNat := by omega
  simp (disch := first | assumption | decide +kernel | omega | (split <;> omega)) only [q_130_0, q_130_1, q_130_2, q_130_3, q_130_6, q_130_8, q_130_9, q_130_12, q_130_15, q_130_17, q_130_19, q_130_20, q_130_21, q_130_22, q_130_23, q_130_24, q_130_25, q_130_27, q_130_28, q_130_29, q_130_30, q_130_31, q_130_34, q_130_36, q_130_38, q_130_39, q_130_40, q_130_41, q_130_42, q_130_43, q_130_45, q_130_46, q_130_47, q_130_48, c_R_copyLong, pm_some, Option.toList_some, Option.toList_none, List.cons_append, List.nil_append, pm_i0, pm_i1, Nat.reduceAdd, Nat.reduceMul, Int.toNat_natCast, Int.toNat_zero, q1, q2, hn]
theorem c_R_work0 {m l bf bh : Nat} {n s st h c e p er f : Int} (L : Nat) (Z : Nat → Nat → Int) (W : Nat → Nat) (H : rw_ m l bf bh n s st h c e p er Z) (F : rf l c f Z) (hst : st = 0) : pm_D (155, 0, [.ref 190, .int (pm_J (m : Int)), .int (pm_J (l : Int)), .null, .null, .null, .null], [], pm_hp L Z W) = some (none, pm_hp L (wR0 m l bf s Z) W) := by
  obtain ⟨hd, hl, hm, ⟨d1, d2⟩, ⟨n1, n2, n3⟩, ⟨s1, s2, s3⟩, ⟨t1, t2, t3⟩, ⟨h1, h2, h3⟩, ⟨u1, u2, u3⟩, ⟨e1, e2, e3⟩, ⟨p1, p2, p3⟩, ⟨r1, r2, r3⟩⟩ := id H
  have m0 : 0 ≤ (m : Int) := by omega
  have m10 : (m : Int) < 10 := by omega
  have l0 : (l : Int) < 7 := by omega
  have hbf := c_R_before (m : Int) (l : Int) L Z W m0 m10 (by rw [Int.toNat_natCast]; exact d1) (by rw [Int.toNat_natCast]; exact d2)
  have hbh := c_R_behind (m : Int) (l : Int) L Z W m0 m10 (by rw [Int.toNat_natCast]; exact d1) (by rw [Int.toNat_natCast]; exact d2)
  rw [Int.toNat_natCast] at hbf hbh
  have hbf' : (if Z 205 m < Z 206 m then (l : Int) else (l : Int) + 1) = (bf : Int) := by
    rcases hd with ⟨q, q1, q2⟩ | ⟨q, q1, q2⟩
    · rw [if_neg q]; omega
    · rw [if_pos q]; omega
  have hbh' : (if Z 205 m < Z 206 m then (l : Int) + 1 else (l : Int)) = (bh : Int) := by
    rcases hd with ⟨q, q1, q2⟩ | ⟨q, q1, q2⟩
    · rw [if_neg q]; omega
    · rw [if_pos q]; omega
  rw [hbf'] at hbf
  rw [hbh'] at hbh
  have b8 : bf < 8 := by omega
  have b8' : bh < 8 := by omega
  have b7 : (bf : Int) < 8 := by omega
  have b7' : (bh : Int) < 8 := by omega
  have q1 : (31 + 8 * (m : Int) + (bh : Int)).toNat = 31 + 8 * m + bh := by omega
  have q2 : (311 + 30 * (8 * (m : Int) + (bf : Int)) + n).toNat = 311 + 30 * (8 * m + bf) + n.toNat := by omega
  have q3 : (111 + (8 * (m : Int) + (l : Int))).toNat = 111 + 8 * m + l := by omega
  have q4 : (191 + (8 * (m : Int) + (l : Int))).toNat = 191 + 8 * m + l := by omega
  have q5 : (303 + (bf : Int)).toNat = 303 + bf := by omega
  have q6 : (303 + (bh : Int)).toNat = 303 + bh := by omega
  have q7 : (271 + 4 * (l : Int) + 1).toNat = 271 + 4 * l + 1 := by omega
  have q8 : (271 + 4 * (l : Int) + 2).toNat = 271 + 4 * l + 2 := by omega
  have q9 : (21 + (m : Int)).toNat = 21 + m := by omega
  have hcl := c_R_copyLong (m : Int) (bh : Int) L Z W m0 m10 (by omega) b7'
  rw [q1, n1] at hcl
  have hsg := c_R_signAt (m : Int) (bf : Int) n L Z W m0 m10 (by omega) b7 n2 n3
  rw [q2, s1] at hsg
  subst hst
  simp (disch := first | assumption | decide +kernel | omega | (split <;> omega)) only [q_155_0, q_155_1, q_155_2, q_155_3, q_155_6, q_155_7, q_155_8, q_155_9, q_155_10, q_155_13, q_155_15, q_155_16, q_155_17, q_155_18, q_155_19, q_155_20, q_155_22, q_155_25, q_155_28, q_155_30, q_155_32, q_155_33, q_155_34, q_155_35, q_155_36, q_155_38, q_155_39, q_155_42, q_155_44, q_155_46, q_155_47, q_155_48, q_155_76, q_155_77, q_155_80, q_155_83, q_155_84, q_155_85, q_155_87, q_155_88, q_155_89, q_155_92, q_155_94, q_155_96, q_155_97, q_155_98, q_155_99, q_155_102, q_155_103, q_155_106, q_155_109, q_155_111, q_155_112, q_155_113, q_155_114, q_155_116, q_155_119, q_155_120, q_155_121, q_155_124, q_155_127, q_155_128, q_155_129, q_155_131, q_155_132, q_155_133, q_155_136, q_155_139, q_155_141, q_155_142, q_155_143, q_155_146, q_155_149, q_155_151, q_155_152, q_155_153, q_155_154, q_155_155, q_155_158, q_155_160, q_155_162, q_155_163, q_155_164, q_155_165, q_155_168, q_155_169, q_155_170, q_155_171, q_155_174, q_155_177, q_155_179, q_155_180, q_155_181, q_155_184, q_155_186, q_155_189, q_155_190, q_155_191, q_155_193, q_155_194, q_155_197, q_155_200, q_155_202, q_155_203, q_155_204, q_155_207, q_155_208, q_155_211, q_155_214, q_155_215, q_155_216, q_155_217, q_155_218, q_155_219, q_155_220, q_155_221, q_155_222, q_155_223, q_155_224, q_155_225, q_155_226, q_155_229, q_155_231, q_155_233, q_155_234, q_155_235, q_155_236, q_155_239, q_155_240, q_155_243, q_155_246, q_155_247, q_155_248, q_155_249, q_155_250, q_155_251, q_155_252, q_155_253, q_155_254, q_155_255, q_155_256, q_155_257, q_155_258, q_155_261, q_155_263, q_155_264, q_155_265, q_155_266, q_155_267, q_155_268, q_155_269, q_155_270, q_155_271, q_155_274, q_155_276, q_155_278, q_155_279, q_155_280, q_155_281, q_155_284, q_155_285, q_155_288, q_155_291, q_155_292, q_155_293, q_155_295, q_155_296, q_155_297, q_155_300, q_155_302, q_155_304, q_155_305, q_155_306, q_155_307, pm_some, Option.toList_some, Option.toList_none, List.cons_append, List.nil_append, pm_i0, pm_i1, Nat.reduceAdd, Nat.reduceMul, Int.toNat_natCast, Int.toNat_zero, hbf, hbh, hcl, hsg, q3, q4, q5, q6, t1, not_true_eq_false, not_false_eq_true, and_self, true_and, and_true, ↓reduceIte, Int.reduceEq, Int.reduceLT, Int.reduceLE, Int.reduceNeg, Bool.false_eq_true]
  rfl
theorem c_R_work4 {m l bf bh : Nat} {n s st h c e p er f : Int} (L : Nat) (Z : Nat → Nat → Int) (W : Nat → Nat) (H : rw_ m l bf bh n s st h c e p er Z) (F : rf l c f Z) (hst : st = 3) : pm_D (155, 0, [.ref 190, .int (pm_J (m : Int)), .int (pm_J (l : Int)), .null, .null, .null, .null], [], pm_hp L Z W) = some (none, pm_hp L (wR4 m l bf Z) W) := by
  obtain ⟨hd, hl, hm, ⟨d1, d2⟩, ⟨n1, n2, n3⟩, ⟨s1, s2, s3⟩, ⟨t1, t2, t3⟩, ⟨h1, h2, h3⟩, ⟨u1, u2, u3⟩, ⟨e1, e2, e3⟩, ⟨p1, p2, p3⟩, ⟨r1, r2, r3⟩⟩ := id H
  have m0 : 0 ≤ (m : Int) := by omega
  have m10 : (m : Int) < 10 := by omega
  have l0 : (l : Int) < 7 := by omega
  have hbf := c_R_before (m : Int) (l : Int) L Z W m0 m10 (by rw [Int.toNat_natCast]; exact d1) (by rw [Int.toNat_natCast]; exact d2)
  have hbh := c_R_behind (m : Int) (l : Int) L Z W m0 m10 (by rw [Int.toNat_natCast]; exact d1) (by rw [Int.toNat_natCast]; exact d2)
  rw [Int.toNat_natCast] at hbf hbh
  have hbf' : (if Z 205 m < Z 206 m then (l : Int) else (l : Int) + 1) = (bf : Int) := by
    rcases hd with ⟨q, q1, q2⟩ | ⟨q, q1, q2⟩
    · rw [if_neg q]; omega
    · rw [if_pos q]; omega
  have hbh' : (if Z 205 m < Z 206 m then (l : Int) + 1 else (l : Int)) = (bh : Int) := by
    rcases hd with ⟨q, q1, q2⟩ | ⟨q, q1, q2⟩
    · rw [if_neg q]; omega
    · rw [if_pos q]; omega
  rw [hbf'] at hbf
  rw [hbh'] at hbh
  have b8 : bf < 8 := by omega
  have b8' : bh < 8 := by omega
  have b7 : (bf : Int) < 8 := by omega
  have b7' : (bh : Int) < 8 := by omega
  have q1 : (31 + 8 * (m : Int) + (bh : Int)).toNat = 31 + 8 * m + bh := by omega
  have q2 : (311 + 30 * (8 * (m : Int) + (bf : Int)) + n).toNat = 311 + 30 * (8 * m + bf) + n.toNat := by omega
  have q3 : (111 + (8 * (m : Int) + (l : Int))).toNat = 111 + 8 * m + l := by omega
  have q4 : (191 + (8 * (m : Int) + (l : Int))).toNat = 191 + 8 * m + l := by omega
  have q5 : (303 + (bf : Int)).toNat = 303 + bf := by omega
  have q6 : (303 + (bh : Int)).toNat = 303 + bh := by omega
  have q7 : (271 + 4 * (l : Int) + 1).toNat = 271 + 4 * l + 1 := by omega
  have q8 : (271 + 4 * (l : Int) + 2).toNat = 271 + 4 * l + 2 := by omega
  have q9 : (21 + (m : Int)).toNat = 21 + m := by omega
  have hcl := c_R_copyLong (m : Int) (bh : Int) L Z W m0 m10 (by omega) b7'
  rw [q1, n1] at hcl
  have hsg := c_R_signAt (m : Int) (bf : Int) n L Z W m0 m10 (by omega) b7 n2 n3
  rw [q2, s1] at hsg
  subst hst
  simp (disch := first | assumption | decide +kernel | omega | (split <;> omega)) only [q_155_0, q_155_1, q_155_2, q_155_3, q_155_6, q_155_7, q_155_8, q_155_9, q_155_10, q_155_13, q_155_15, q_155_16, q_155_17, q_155_18, q_155_19, q_155_20, q_155_22, q_155_25, q_155_28, q_155_30, q_155_32, q_155_33, q_155_34, q_155_35, q_155_36, q_155_38, q_155_39, q_155_42, q_155_44, q_155_46, q_155_47, q_155_48, q_155_76, q_155_77, q_155_80, q_155_83, q_155_84, q_155_85, q_155_87, q_155_88, q_155_89, q_155_92, q_155_94, q_155_96, q_155_97, q_155_98, q_155_99, q_155_102, q_155_103, q_155_106, q_155_109, q_155_111, q_155_112, q_155_113, q_155_114, q_155_116, q_155_119, q_155_120, q_155_121, q_155_124, q_155_127, q_155_128, q_155_129, q_155_131, q_155_132, q_155_133, q_155_136, q_155_139, q_155_141, q_155_142, q_155_143, q_155_146, q_155_149, q_155_151, q_155_152, q_155_153, q_155_154, q_155_155, q_155_158, q_155_160, q_155_162, q_155_163, q_155_164, q_155_165, q_155_168, q_155_169, q_155_170, q_155_171, q_155_174, q_155_177, q_155_179, q_155_180, q_155_181, q_155_184, q_155_186, q_155_189, q_155_190, q_155_191, q_155_193, q_155_194, q_155_197, q_155_200, q_155_202, q_155_203, q_155_204, q_155_207, q_155_208, q_155_211, q_155_214, q_155_215, q_155_216, q_155_217, q_155_218, q_155_219, q_155_220, q_155_221, q_155_222, q_155_223, q_155_224, q_155_225, q_155_226, q_155_229, q_155_231, q_155_233, q_155_234, q_155_235, q_155_236, q_155_239, q_155_240, q_155_243, q_155_246, q_155_247, q_155_248, q_155_249, q_155_250, q_155_251, q_155_252, q_155_253, q_155_254, q_155_255, q_155_256, q_155_257, q_155_258, q_155_261, q_155_263, q_155_264, q_155_265, q_155_266, q_155_267, q_155_268, q_155_269, q_155_270, q_155_271, q_155_274, q_155_276, q_155_278, q_155_279, q_155_280, q_155_281, q_155_284, q_155_285, q_155_288, q_155_291, q_155_292, q_155_293, q_155_295, q_155_296, q_155_297, q_155_300, q_155_302, q_155_304, q_155_305, q_155_306, q_155_307, pm_some, Option.toList_some, Option.toList_none, List.cons_append, List.nil_append, pm_i0, pm_i1, Nat.reduceAdd, Nat.reduceMul, Int.toNat_natCast, Int.toNat_zero, hbf, hbh, hcl, hsg, q3, q4, q5, q6, t1, not_true_eq_false, not_false_eq_true, and_self, true_and, and_true, ↓reduceIte, Int.reduceEq, Int.reduceLT, Int.reduceLE, Int.reduceNeg, Bool.false_eq_true]
  rfl
theorem c_R_work1 {m l bf bh : Nat} {n s st h c e p er f : Int} (L : Nat) (Z : Nat → Nat → Int) (W : Nat → Nat) (H : rw_ m l bf bh n s st h c e p er Z) (F : rf l c f Z) (hst : st = 1) : pm_D (155, 0, [.ref 190, .int (pm_J (m : Int)), .int (pm_J (l : Int)), .null, .null, .null, .null], [], pm_hp L Z W) = some (none, pm_hp L (wR1 m l bf bh s ((s + f) % 100) c Z) W) := by
  obtain ⟨hd, hl, hm, ⟨d1, d2⟩, ⟨n1, n2, n3⟩, ⟨s1, s2, s3⟩, ⟨t1, t2, t3⟩, ⟨h1, h2, h3⟩, ⟨u1, u2, u3⟩, ⟨e1, e2, e3⟩, ⟨p1, p2, p3⟩, ⟨r1, r2, r3⟩⟩ := id H
  have m0 : 0 ≤ (m : Int) := by omega
  have m10 : (m : Int) < 10 := by omega
  have l0 : (l : Int) < 7 := by omega
  have hbf := c_R_before (m : Int) (l : Int) L Z W m0 m10 (by rw [Int.toNat_natCast]; exact d1) (by rw [Int.toNat_natCast]; exact d2)
  have hbh := c_R_behind (m : Int) (l : Int) L Z W m0 m10 (by rw [Int.toNat_natCast]; exact d1) (by rw [Int.toNat_natCast]; exact d2)
  rw [Int.toNat_natCast] at hbf hbh
  have hbf' : (if Z 205 m < Z 206 m then (l : Int) else (l : Int) + 1) = (bf : Int) := by
    rcases hd with ⟨q, q1, q2⟩ | ⟨q, q1, q2⟩
    · rw [if_neg q]; omega
    · rw [if_pos q]; omega
  have hbh' : (if Z 205 m < Z 206 m then (l : Int) + 1 else (l : Int)) = (bh : Int) := by
    rcases hd with ⟨q, q1, q2⟩ | ⟨q, q1, q2⟩
    · rw [if_neg q]; omega
    · rw [if_pos q]; omega
  rw [hbf'] at hbf
  rw [hbh'] at hbh
  have b8 : bf < 8 := by omega
  have b8' : bh < 8 := by omega
  have b7 : (bf : Int) < 8 := by omega
  have b7' : (bh : Int) < 8 := by omega
  have q1 : (31 + 8 * (m : Int) + (bh : Int)).toNat = 31 + 8 * m + bh := by omega
  have q2 : (311 + 30 * (8 * (m : Int) + (bf : Int)) + n).toNat = 311 + 30 * (8 * m + bf) + n.toNat := by omega
  have q3 : (111 + (8 * (m : Int) + (l : Int))).toNat = 111 + 8 * m + l := by omega
  have q4 : (191 + (8 * (m : Int) + (l : Int))).toNat = 191 + 8 * m + l := by omega
  have q5 : (303 + (bf : Int)).toNat = 303 + bf := by omega
  have q6 : (303 + (bh : Int)).toNat = 303 + bh := by omega
  have q7 : (271 + 4 * (l : Int) + 1).toNat = 271 + 4 * l + 1 := by omega
  have q8 : (271 + 4 * (l : Int) + 2).toNat = 271 + 4 * l + 2 := by omega
  have q9 : (21 + (m : Int)).toNat = 21 + m := by omega
  have hcl := c_R_copyLong (m : Int) (bh : Int) L Z W m0 m10 (by omega) b7'
  rw [q1, n1] at hcl
  have hsg := c_R_signAt (m : Int) (bf : Int) n L Z W m0 m10 (by omega) b7 n2 n3
  rw [q2, s1] at hsg
  have hrd := c_R_read s c f L Z W hl u1 u2 u3 s2 s3 F
  have ya : ∀ v w, pm_up (pm_up (pm_up Z 191 (271 + 4 * l) (c + 1)) 191 (191 + 8 * m + l) v) 191 (303 + bf) w 191 (191 + 8 * m + l) = v := fun v w => by rw [pm_up_ne (by omega), pm_up_same]
  subst hst
  simp (disch := first | assumption | decide +kernel | omega | (split <;> omega)) only [q_155_0, q_155_1, q_155_2, q_155_3, q_155_6, q_155_7, q_155_8, q_155_9, q_155_10, q_155_13, q_155_15, q_155_16, q_155_17, q_155_18, q_155_19, q_155_20, q_155_22, q_155_25, q_155_28, q_155_30, q_155_32, q_155_33, q_155_34, q_155_35, q_155_36, q_155_38, q_155_39, q_155_42, q_155_44, q_155_46, q_155_47, q_155_48, q_155_76, q_155_77, q_155_80, q_155_83, q_155_84, q_155_85, q_155_87, q_155_88, q_155_89, q_155_92, q_155_94, q_155_96, q_155_97, q_155_98, q_155_99, q_155_102, q_155_103, q_155_106, q_155_109, q_155_111, q_155_112, q_155_113, q_155_114, q_155_116, q_155_119, q_155_120, q_155_121, q_155_124, q_155_127, q_155_128, q_155_129, q_155_131, q_155_132, q_155_133, q_155_136, q_155_139, q_155_141, q_155_142, q_155_143, q_155_146, q_155_149, q_155_151, q_155_152, q_155_153, q_155_154, q_155_155, q_155_158, q_155_160, q_155_162, q_155_163, q_155_164, q_155_165, q_155_168, q_155_169, q_155_170, q_155_171, q_155_174, q_155_177, q_155_179, q_155_180, q_155_181, q_155_184, q_155_186, q_155_189, q_155_190, q_155_191, q_155_193, q_155_194, q_155_197, q_155_200, q_155_202, q_155_203, q_155_204, q_155_207, q_155_208, q_155_211, q_155_214, q_155_215, q_155_216, q_155_217, q_155_218, q_155_219, q_155_220, q_155_221, q_155_222, q_155_223, q_155_224, q_155_225, q_155_226, q_155_229, q_155_231, q_155_233, q_155_234, q_155_235, q_155_236, q_155_239, q_155_240, q_155_243, q_155_246, q_155_247, q_155_248, q_155_249, q_155_250, q_155_251, q_155_252, q_155_253, q_155_254, q_155_255, q_155_256, q_155_257, q_155_258, q_155_261, q_155_263, q_155_264, q_155_265, q_155_266, q_155_267, q_155_268, q_155_269, q_155_270, q_155_271, q_155_274, q_155_276, q_155_278, q_155_279, q_155_280, q_155_281, q_155_284, q_155_285, q_155_288, q_155_291, q_155_292, q_155_293, q_155_295, q_155_296, q_155_297, q_155_300, q_155_302, q_155_304, q_155_305, q_155_306, q_155_307, pm_some, Option.toList_some, Option.toList_none, List.cons_append, List.nil_append, pm_i0, pm_i1, Nat.reduceAdd, Nat.reduceMul, Int.toNat_natCast, Int.toNat_zero, hbf, hbh, hcl, hsg, q3, q4, q5, q6, t1, not_true_eq_false, not_false_eq_true, and_self, true_and, and_true, ↓reduceIte, Int.reduceEq, Int.reduceLT, Int.reduceLE, Int.reduceNeg, Bool.false_eq_true, hrd, ya]
  rfl
theorem c_R_work2 {m l bf bh : Nat} {n s st h c e p er f : Int} (L : Nat) (Z : Nat → Nat → Int) (W : Nat → Nat) (H : rw_ m l bf bh n s st h c e p er Z) (F : rf l c f Z) (hst : st = 2) (hne : ¬ (h + f) % 100 = s) : pm_D (155, 0, [.ref 190, .int (pm_J (m : Int)), .int (pm_J (l : Int)), .null, .null, .null, .null], [], pm_hp L Z W) = some (none, pm_hp L (wR2 m l c e er Z) W) := by
  obtain ⟨hd, hl, hm, ⟨d1, d2⟩, ⟨n1, n2, n3⟩, ⟨s1, s2, s3⟩, ⟨t1, t2, t3⟩, ⟨h1, h2, h3⟩, ⟨u1, u2, u3⟩, ⟨e1, e2, e3⟩, ⟨p1, p2, p3⟩, ⟨r1, r2, r3⟩⟩ := id H
  have m0 : 0 ≤ (m : Int) := by omega
  have m10 : (m : Int) < 10 := by omega
  have l0 : (l : Int) < 7 := by omega
  have hbf := c_R_before (m : Int) (l : Int) L Z W m0 m10 (by rw [Int.toNat_natCast]; exact d1) (by rw [Int.toNat_natCast]; exact d2)
  have hbh := c_R_behind (m : Int) (l : Int) L Z W m0 m10 (by rw [Int.toNat_natCast]; exact d1) (by rw [Int.toNat_natCast]; exact d2)
  rw [Int.toNat_natCast] at hbf hbh
  have hbf' : (if Z 205 m < Z 206 m then (l : Int) else (l : Int) + 1) = (bf : Int) := by
    rcases hd with ⟨q, q1, q2⟩ | ⟨q, q1, q2⟩
    · rw [if_neg q]; omega
    · rw [if_pos q]; omega
  have hbh' : (if Z 205 m < Z 206 m then (l : Int) + 1 else (l : Int)) = (bh : Int) := by
    rcases hd with ⟨q, q1, q2⟩ | ⟨q, q1, q2⟩
    · rw [if_neg q]; omega
    · rw [if_pos q]; omega
  rw [hbf'] at hbf
  rw [hbh'] at hbh
  have b8 : bf < 8 := by omega
  have b8' : bh < 8 := by omega
  have b7 : (bf : Int) < 8 := by omega
  have b7' : (bh : Int) < 8 := by omega
  have q1 : (31 + 8 * (m : Int) + (bh : Int)).toNat = 31 + 8 * m + bh := by omega
  have q2 : (311 + 30 * (8 * (m : Int) + (bf : Int)) + n).toNat = 311 + 30 * (8 * m + bf) + n.toNat := by omega
  have q3 : (111 + (8 * (m : Int) + (l : Int))).toNat = 111 + 8 * m + l := by omega
  have q4 : (191 + (8 * (m : Int) + (l : Int))).toNat = 191 + 8 * m + l := by omega
  have q5 : (303 + (bf : Int)).toNat = 303 + bf := by omega
  have q6 : (303 + (bh : Int)).toNat = 303 + bh := by omega
  have q7 : (271 + 4 * (l : Int) + 1).toNat = 271 + 4 * l + 1 := by omega
  have q8 : (271 + 4 * (l : Int) + 2).toNat = 271 + 4 * l + 2 := by omega
  have q9 : (21 + (m : Int)).toNat = 21 + m := by omega
  have hcl := c_R_copyLong (m : Int) (bh : Int) L Z W m0 m10 (by omega) b7'
  rw [q1, n1] at hcl
  have hsg := c_R_signAt (m : Int) (bf : Int) n L Z W m0 m10 (by omega) b7 n2 n3
  rw [q2, s1] at hsg
  have hrd := c_R_read h c f L Z W hl u1 u2 u3 h2 h3 F
  have x0 := Int.emod_nonneg (h + f) (show (100 : Int) ≠ 0 by decide)
  have x1 := Int.emod_lt_of_pos (h + f) (show (0 : Int) < 100 by decide)
  have ya : pm_up Z 191 (271 + 4 * l) (c + 1) 191 (271 + 4 * l + 1) = e := by rw [pm_up_ne (by omega)]; exact e1
  have yb : pm_up (pm_up Z 191 (271 + 4 * l) (c + 1)) 191 (271 + 4 * l + 1) (e + 1) 191 (21 + m) = er := by rw [pm_up_ne (by omega), pm_up_ne (by omega)]; exact r1
  subst hst
  simp (disch := first | assumption | decide +kernel | omega | (split <;> omega)) only [q_155_0, q_155_1, q_155_2, q_155_3, q_155_6, q_155_7, q_155_8, q_155_9, q_155_10, q_155_13, q_155_15, q_155_16, q_155_17, q_155_18, q_155_19, q_155_20, q_155_22, q_155_25, q_155_28, q_155_30, q_155_32, q_155_33, q_155_34, q_155_35, q_155_36, q_155_38, q_155_39, q_155_42, q_155_44, q_155_46, q_155_47, q_155_48, q_155_76, q_155_77, q_155_80, q_155_83, q_155_84, q_155_85, q_155_87, q_155_88, q_155_89, q_155_92, q_155_94, q_155_96, q_155_97, q_155_98, q_155_99, q_155_102, q_155_103, q_155_106, q_155_109, q_155_111, q_155_112, q_155_113, q_155_114, q_155_116, q_155_119, q_155_120, q_155_121, q_155_124, q_155_127, q_155_128, q_155_129, q_155_131, q_155_132, q_155_133, q_155_136, q_155_139, q_155_141, q_155_142, q_155_143, q_155_146, q_155_149, q_155_151, q_155_152, q_155_153, q_155_154, q_155_155, q_155_158, q_155_160, q_155_162, q_155_163, q_155_164, q_155_165, q_155_168, q_155_169, q_155_170, q_155_171, q_155_174, q_155_177, q_155_179, q_155_180, q_155_181, q_155_184, q_155_186, q_155_189, q_155_190, q_155_191, q_155_193, q_155_194, q_155_197, q_155_200, q_155_202, q_155_203, q_155_204, q_155_207, q_155_208, q_155_211, q_155_214, q_155_215, q_155_216, q_155_217, q_155_218, q_155_219, q_155_220, q_155_221, q_155_222, q_155_223, q_155_224, q_155_225, q_155_226, q_155_229, q_155_231, q_155_233, q_155_234, q_155_235, q_155_236, q_155_239, q_155_240, q_155_243, q_155_246, q_155_247, q_155_248, q_155_249, q_155_250, q_155_251, q_155_252, q_155_253, q_155_254, q_155_255, q_155_256, q_155_257, q_155_258, q_155_261, q_155_263, q_155_264, q_155_265, q_155_266, q_155_267, q_155_268, q_155_269, q_155_270, q_155_271, q_155_274, q_155_276, q_155_278, q_155_279, q_155_280, q_155_281, q_155_284, q_155_285, q_155_288, q_155_291, q_155_292, q_155_293, q_155_295, q_155_296, q_155_297, q_155_300, q_155_302, q_155_304, q_155_305, q_155_306, q_155_307, pm_some, Option.toList_some, Option.toList_none, List.cons_append, List.nil_append, pm_i0, pm_i1, Nat.reduceAdd, Nat.reduceMul, Int.toNat_natCast, Int.toNat_zero, hbf, hbh, hcl, hsg, q3, q4, q5, q6, t1, not_true_eq_false, not_false_eq_true, and_self, true_and, and_true, ↓reduceIte, Int.reduceEq, Int.reduceLT, Int.reduceLE, Int.reduceNeg, Bool.false_eq_true, h1, hrd, hne, q7, q9, ya, yb]
  rfl
theorem c_R_work3 {m l bf bh : Nat} {n s st h c e p er f : Int} (L : Nat) (Z : Nat → Nat → Int) (W : Nat → Nat) (H : rw_ m l bf bh n s st h c e p er Z) (F : rf l c f Z) (hst : st = 2) (heq : (h + f) % 100 = s) : pm_D (155, 0, [.ref 190, .int (pm_J (m : Int)), .int (pm_J (l : Int)), .null, .null, .null, .null], [], pm_hp L Z W) = some (none, pm_hp L (wR3 m l bh n h c p Z) W) := by
  obtain ⟨hd, hl, hm, ⟨d1, d2⟩, ⟨n1, n2, n3⟩, ⟨s1, s2, s3⟩, ⟨t1, t2, t3⟩, ⟨h1, h2, h3⟩, ⟨u1, u2, u3⟩, ⟨e1, e2, e3⟩, ⟨p1, p2, p3⟩, ⟨r1, r2, r3⟩⟩ := id H
  have m0 : 0 ≤ (m : Int) := by omega
  have m10 : (m : Int) < 10 := by omega
  have l0 : (l : Int) < 7 := by omega
  have hbf := c_R_before (m : Int) (l : Int) L Z W m0 m10 (by rw [Int.toNat_natCast]; exact d1) (by rw [Int.toNat_natCast]; exact d2)
  have hbh := c_R_behind (m : Int) (l : Int) L Z W m0 m10 (by rw [Int.toNat_natCast]; exact d1) (by rw [Int.toNat_natCast]; exact d2)
  rw [Int.toNat_natCast] at hbf hbh
  have hbf' : (if Z 205 m < Z 206 m then (l : Int) else (l : Int) + 1) = (bf : Int) := by
    rcases hd with ⟨q, q1, q2⟩ | ⟨q, q1, q2⟩
    · rw [if_neg q]; omega
    · rw [if_pos q]; omega
  have hbh' : (if Z 205 m < Z 206 m then (l : Int) + 1 else (l : Int)) = (bh : Int) := by
    rcases hd with ⟨q, q1, q2⟩ | ⟨q, q1, q2⟩
    · rw [if_neg q]; omega
    · rw [if_pos q]; omega
  rw [hbf'] at hbf
  rw [hbh'] at hbh
  have b8 : bf < 8 := by omega
  have b8' : bh < 8 := by omega
  have b7 : (bf : Int) < 8 := by omega
  have b7' : (bh : Int) < 8 := by omega
  have q1 : (31 + 8 * (m : Int) + (bh : Int)).toNat = 31 + 8 * m + bh := by omega
  have q2 : (311 + 30 * (8 * (m : Int) + (bf : Int)) + n).toNat = 311 + 30 * (8 * m + bf) + n.toNat := by omega
  have q3 : (111 + (8 * (m : Int) + (l : Int))).toNat = 111 + 8 * m + l := by omega
  have q4 : (191 + (8 * (m : Int) + (l : Int))).toNat = 191 + 8 * m + l := by omega
  have q5 : (303 + (bf : Int)).toNat = 303 + bf := by omega
  have q6 : (303 + (bh : Int)).toNat = 303 + bh := by omega
  have q7 : (271 + 4 * (l : Int) + 1).toNat = 271 + 4 * l + 1 := by omega
  have q8 : (271 + 4 * (l : Int) + 2).toNat = 271 + 4 * l + 2 := by omega
  have q9 : (21 + (m : Int)).toNat = 21 + m := by omega
  have hcl := c_R_copyLong (m : Int) (bh : Int) L Z W m0 m10 (by omega) b7'
  rw [q1, n1] at hcl
  have hsg := c_R_signAt (m : Int) (bf : Int) n L Z W m0 m10 (by omega) b7 n2 n3
  rw [q2, s1] at hsg
  have hrd := c_R_read h c f L Z W hl u1 u2 u3 h2 h3 F
  have ya : pm_up Z 191 (271 + 4 * l) (c + 1) 191 (191 + 8 * m + l) = h := by rw [pm_up_ne (by omega)]; exact h1
  have yb : pm_up (pm_up (pm_up Z 191 (271 + 4 * l) (c + 1)) 191 (311 + 30 * (8 * m + bh) + n.toNat) h) 191 (31 + 8 * m + bh) (n + 1) 191 (271 + 4 * l + 2) = p := by rw [pm_up_ne (by omega), pm_up_ne (by omega), pm_up_ne (by omega)]; exact p1
  have hap := c_R_append m bh n h L (pm_up Z 191 (271 + 4 * l) (c + 1)) W hm b8' (by rw [pm_up_ne (by omega)]; exact n1) n2 n3
  subst hst
  simp (disch := first | assumption | decide +kernel | omega | (split <;> omega)) only [q_155_0, q_155_1, q_155_2, q_155_3, q_155_6, q_155_7, q_155_8, q_155_9, q_155_10, q_155_13, q_155_15, q_155_16, q_155_17, q_155_18, q_155_19, q_155_20, q_155_22, q_155_25, q_155_28, q_155_30, q_155_32, q_155_33, q_155_34, q_155_35, q_155_36, q_155_38, q_155_39, q_155_42, q_155_44, q_155_46, q_155_47, q_155_48, q_155_76, q_155_77, q_155_80, q_155_83, q_155_84, q_155_85, q_155_87, q_155_88, q_155_89, q_155_92, q_155_94, q_155_96, q_155_97, q_155_98, q_155_99, q_155_102, q_155_103, q_155_106, q_155_109, q_155_111, q_155_112, q_155_113, q_155_114, q_155_116, q_155_119, q_155_120, q_155_121, q_155_124, q_155_127, q_155_128, q_155_129, q_155_131, q_155_132, q_155_133, q_155_136, q_155_139, q_155_141, q_155_142, q_155_143, q_155_146, q_155_149, q_155_151, q_155_152, q_155_153, q_155_154, q_155_155, q_155_158, q_155_160, q_155_162, q_155_163, q_155_164, q_155_165, q_155_168, q_155_169, q_155_170, q_155_171, q_155_174, q_155_177, q_155_179, q_155_180, q_155_181, q_155_184, q_155_186, q_155_189, q_155_190, q_155_191, q_155_193, q_155_194, q_155_197, q_155_200, q_155_202, q_155_203, q_155_204, q_155_207, q_155_208, q_155_211, q_155_214, q_155_215, q_155_216, q_155_217, q_155_218, q_155_219, q_155_220, q_155_221, q_155_222, q_155_223, q_155_224, q_155_225, q_155_226, q_155_229, q_155_231, q_155_233, q_155_234, q_155_235, q_155_236, q_155_239, q_155_240, q_155_243, q_155_246, q_155_247, q_155_248, q_155_249, q_155_250, q_155_251, q_155_252, q_155_253, q_155_254, q_155_255, q_155_256, q_155_257, q_155_258, q_155_261, q_155_263, q_155_264, q_155_265, q_155_266, q_155_267, q_155_268, q_155_269, q_155_270, q_155_271, q_155_274, q_155_276, q_155_278, q_155_279, q_155_280, q_155_281, q_155_284, q_155_285, q_155_288, q_155_291, q_155_292, q_155_293, q_155_295, q_155_296, q_155_297, q_155_300, q_155_302, q_155_304, q_155_305, q_155_306, q_155_307, pm_some, Option.toList_some, Option.toList_none, List.cons_append, List.nil_append, pm_i0, pm_i1, Nat.reduceAdd, Nat.reduceMul, Int.toNat_natCast, Int.toNat_zero, hbf, hbh, hcl, hsg, q3, q4, q5, q6, t1, not_true_eq_false, not_false_eq_true, and_self, true_and, and_true, ↓reduceIte, Int.reduceEq, Int.reduceLT, Int.reduceLE, Int.reduceNeg, Bool.false_eq_true, h1, hrd, heq, q8, ya, yb, hap]
  rfl
