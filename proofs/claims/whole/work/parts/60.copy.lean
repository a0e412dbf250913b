/-! the trial line becomes the line -/
theorem pm_cpz_row {Z : Nat → Nat → Int} {s d sp dp n b : Nat} (h : b ≠ d) : pm_cpz Z s d sp dp n b = Z b := by
  funext i
  unfold pm_cpz
  rw [if_neg (fun q => h q.1)]
theorem pm_cpz_at {Z : Nat → Nat → Int} {s d n i : Nat} (h : i < n) : pm_cpz Z s d 0 0 n d i = Z s i := by
  unfold pm_cpz
  rw [if_pos ⟨rfl, Nat.zero_le _, by omega⟩, Nat.zero_add, Nat.sub_zero]
theorem c_copyW (L : Nat) (Z : Nat → Nat → Int) (W : Nat → Nat) (h0 : 0 ≤ Z 47 5) (h1 : Z 47 5 ≤ 12) : ∃ Z', pm_D (68, 0, [.ref 119, .ref 47], [], pm_hp L Z W) = some (none, pm_hp L Z' W) ∧ (∀ a, ¬ (119 ≤ a ∧ a < 123) → Z' a = Z a) ∧ (Z' 119 0 = Z 47 0 ∧ Z' 119 1 = Z 47 1 ∧ Z' 119 5 = Z 47 5) ∧ ∀ i : Nat, (i : Int) < Z 47 5 → Z' 120 i = Z 48 i ∧ Z' 121 i = Z 49 i ∧ Z' 122 i = Z 50 i := by
  refine ⟨pm_cpz (pm_cpz (pm_cpz (pm_up (pm_up (pm_up Z 119 0 (Z 47 0)) 119 1 (Z 47 1)) 119 5 (Z 47 5)) 48 120 0 0 (Z 47 5).toNat) 49 121 0 0 (Z 47 5).toNat) 50 122 0 0 (Z 47 5).toNat, ?_, fun a ha => ?_, ⟨?_, ?_, ?_⟩, fun i hi => ⟨?_, ?_, ?_⟩⟩
  · simp (disch := first | assumption | decide +kernel | omega) only [q_68_0, q_68_1, q_68_2, q_68_5, q_68_8, q_68_9, q_68_10, q_68_13, q_68_16, q_68_17, q_68_18, q_68_21, q_68_24, q_68_25, q_68_28, q_68_29, q_68_30, q_68_33, q_68_34, q_68_35, q_68_38, q_68_41, q_68_42, q_68_45, q_68_46, q_68_47, q_68_50, q_68_51, q_68_52, q_68_55, q_68_58, q_68_59, q_68_62, q_68_63, q_68_64, q_68_67, q_68_68, q_68_69, q_68_72, q_68_75, pm_some, Option.toList_some, Option.toList_none, List.cons_append, List.nil_append, pm_i0, pm_i1, Nat.reduceAdd, Nat.reduceMul, Int.toNat_natCast, Int.toNat_zero, pm_up_row, pm_cpz_row, pm_up_same]
  · rw [pm_cpz_row (by omega), pm_cpz_row (by omega), pm_cpz_row (by omega), pm_up_row (by omega), pm_up_row (by omega), pm_up_row (by omega)]
  · rw [pm_cpz_row (by omega), pm_cpz_row (by omega), pm_cpz_row (by omega)]; simp [pm_up]
  · rw [pm_cpz_row (by omega), pm_cpz_row (by omega), pm_cpz_row (by omega)]; simp [pm_up]
  · rw [pm_cpz_row (by omega), pm_cpz_row (by omega), pm_cpz_row (by omega)]; simp [pm_up]
  · rw [pm_cpz_row (by omega), pm_cpz_row (by omega), pm_cpz_at (by omega), pm_up_row (by omega), pm_up_row (by omega), pm_up_row (by omega)]
  · rw [pm_cpz_row (by omega), pm_cpz_at (by omega), pm_cpz_row (by omega), pm_up_row (by omega), pm_up_row (by omega), pm_up_row (by omega)]
  · rw [pm_cpz_at (by omega), pm_cpz_row (by omega), pm_cpz_row (by omega), pm_up_row (by omega), pm_up_row (by omega), pm_up_row (by omega)]
theorem c_copyF (L : Nat) (Z : Nat → Nat → Int) (W : Nat → Nat) (h0 : 0 ≤ Z 51 3) (h1 : Z 51 3 ≤ 16) : ∃ Z', pm_D (14, 0, [.ref 123, .ref 51], [], pm_hp L Z W) = some (none, pm_hp L Z' W) ∧ (∀ a, ¬ (123 ≤ a ∧ a < 127) → Z' a = Z a) ∧ Z' 123 3 = Z 51 3 ∧ ∀ i : Nat, (i : Int) < Z 51 3 → Z' 124 i = Z 52 i ∧ Z' 125 i = Z 53 i ∧ Z' 126 i = Z 54 i := by
  refine ⟨pm_cpz (pm_cpz (pm_cpz (pm_up Z 123 3 (Z 51 3)) 52 124 0 0 (Z 51 3).toNat) 53 125 0 0 (Z 51 3).toNat) 54 126 0 0 (Z 51 3).toNat, ?_, fun a ha => ?_, ?_, fun i hi => ⟨?_, ?_, ?_⟩⟩
  · simp (disch := first | assumption | decide +kernel | omega) only [q_14_0, q_14_1, q_14_2, q_14_5, q_14_8, q_14_9, q_14_12, q_14_13, q_14_14, q_14_17, q_14_18, q_14_19, q_14_22, q_14_25, q_14_26, q_14_29, q_14_30, q_14_31, q_14_34, q_14_35, q_14_36, q_14_39, q_14_42, q_14_43, q_14_46, q_14_47, q_14_48, q_14_51, q_14_52, q_14_53, q_14_56, q_14_59, pm_some, Option.toList_some, Option.toList_none, List.cons_append, List.nil_append, pm_i0, pm_i1, Nat.reduceAdd, Nat.reduceMul, Int.toNat_natCast, Int.toNat_zero, pm_up_row, pm_cpz_row, pm_up_same]
  · rw [pm_cpz_row (by omega), pm_cpz_row (by omega), pm_cpz_row (by omega), pm_up_row (by omega)]
  · rw [pm_cpz_row (by omega), pm_cpz_row (by omega), pm_cpz_row (by omega)]; simp [pm_up]
  · rw [pm_cpz_row (by omega), pm_cpz_row (by omega), pm_cpz_at (by omega), pm_up_row (by omega)]
  · rw [pm_cpz_row (by omega), pm_cpz_at (by omega), pm_cpz_row (by omega), pm_up_row (by omega)]
  · rw [pm_cpz_at (by omega), pm_cpz_row (by omega), pm_cpz_row (by omega), pm_up_row (by omega)]
/-- message object d shows what message object a shows -/
def sameM (Z Z' : Nat → Nat → Int) (a d : Nat) : Prop := (∀ q, q < 11 → Z' d q = Z a q) ∧ (∀ q, q < 240 → Z' (d + 1) q = Z (a + 1) q) ∧ (∀ q, q < 8 → Z' (d + 2) q = Z (a + 2) q) ∧ (∀ q, q < 7 → Z' (d + 3) q = Z (a + 3) q) ∧ (∀ q, q < 7 → Z' (d + 4) q = Z (a + 4) q)
theorem c_copyM {k a d : Nat} (hk : k < 10) (ea : a = 46 + 9 + 6 + 5 * k) (ed : d = 118 + 9 + 6 + 5 * k) (L : Nat) (Z : Nat → Nat → Int) (W : Nat → Nat) (hr2 : 0 ≤ Z a 2 ∧ Z a 2 ≤ 1) : ∃ Z', pm_D (41, 0, [.ref d, .ref a], [], pm_hp L Z W) = some (none, pm_hp L Z' W) ∧ (∀ b, ¬ (d ≤ b ∧ b < d + 5) → Z' b = Z b) ∧ sameM Z Z' a d := by
  obtain ⟨m1, m2, m3, m4, m5, m6, m7, m8, m9⟩ := pm_kdM (o := 46) (n := k) (Or.inl rfl) hk
  obtain ⟨n1, n2, n3, n4, n5, n6, n7, n8, n9⟩ := pm_kdM (o := 118) (n := k) (Or.inr rfl) hk
  rw [← ea] at m1 m2 m3 m4 m5 m6 m7 m8 m9
  rw [← ed] at n1 n2 n3 n4 n5 n6 n7 n8 n9
  obtain ⟨r20, r21⟩ := hr2
  obtain ⟨U, hU⟩ : ∃ U, U = pm_up (pm_up (pm_up (pm_up (pm_up (pm_up (pm_up (pm_up (pm_up (pm_up (pm_up Z d 0 (Z a 0)) d 1 (Z a 1)) d 2 (Z a 2)) d 3 (Z a 3)) d 4 (Z a 4)) d 5 (Z a 5)) d 6 (Z a 6)) d 7 (Z a 7)) d 8 (Z a 8)) d 9 (Z a 9)) d 10 (Z a 10) := ⟨_, rfl⟩
  have u1 : ∀ b, b ≠ d → U b = Z b := fun b hb => by rw [hU]; simp (disch := exact hb) only [pm_up_row]
  have u2 : ∀ q, q < 11 → U d q = Z a q := fun q hq => by
    rw [hU]
    rcases (show q = 0 ∨ q = 1 ∨ q = 2 ∨ q = 3 ∨ q = 4 ∨ q = 5 ∨ q = 6 ∨ q = 7 ∨ q = 8 ∨ q = 9 ∨ q = 10 by omega) with rfl | rfl | rfl | rfl | rfl | rfl | rfl | rfl | rfl | rfl | rfl <;> simp [pm_up]
  refine ⟨pm_cpz (pm_cpz (pm_cpz (pm_cpz U (a + 1) (d + 1) 0 0 240) (a + 2) (d + 2) 0 0 8) (a + 3) (d + 3) 0 0 7) (a + 4) (d + 4) 0 0 7, ?_, fun b hb => ?_, fun q hq => ?_, fun q hq => ?_, fun q hq => ?_, fun q hq => ?_, fun q hq => ?_⟩
  · have h88 : pm_D (41, 88, [.ref d, .ref a], [], pm_hp L U W) = some (none, pm_hp L (pm_cpz (pm_cpz (pm_cpz (pm_cpz U (a + 1) (d + 1) 0 0 240) (a + 2) (d + 2) 0 0 8) (a + 3) (d + 3) 0 0 7) (a + 4) (d + 4) 0 0 7) W) := by
      clear hU u1 u2
      simp (disch := first | assumption | decide +kernel | omega) only [q_41_0, q_41_1, q_41_2, q_41_5, q_41_8, q_41_9, q_41_10, q_41_13, q_41_16, q_41_17, q_41_18, q_41_21, q_41_24, q_41_25, q_41_26, q_41_29, q_41_32, q_41_33, q_41_34, q_41_37, q_41_40, q_41_41, q_41_42, q_41_45, q_41_48, q_41_49, q_41_50, q_41_53, q_41_56, q_41_57, q_41_58, q_41_61, q_41_64, q_41_65, q_41_66, q_41_69, q_41_72, q_41_73, q_41_74, q_41_77, q_41_80, q_41_81, q_41_82, q_41_85, q_41_88, q_41_89, q_41_92, q_41_93, q_41_94, q_41_97, q_41_98, q_41_99, q_41_102, q_41_103, q_41_106, q_41_107, q_41_110, q_41_111, q_41_112, q_41_115, q_41_116, q_41_117, q_41_120, q_41_121, q_41_124, q_41_125, q_41_128, q_41_129, q_41_130, q_41_133, q_41_134, q_41_135, q_41_138, q_41_139, q_41_142, q_41_143, q_41_146, q_41_147, q_41_148, q_41_151, q_41_152, q_41_153, q_41_156, q_41_157, q_41_160, pm_some, Option.toList_some, Option.toList_none, List.cons_append, List.nil_append, pm_i0, pm_i1, Nat.reduceAdd, Nat.reduceMul, Int.toNat_natCast, Int.toNat_zero]
      rfl
    rw [hU] at h88
    simp (disch := first | assumption | decide +kernel | omega) only [q_41_0, q_41_1, q_41_2, q_41_5, q_41_8, q_41_9, q_41_10, q_41_13, q_41_16, q_41_17, q_41_18, q_41_21, q_41_24, q_41_25, q_41_26, q_41_29, q_41_32, q_41_33, q_41_34, q_41_37, q_41_40, q_41_41, q_41_42, q_41_45, q_41_48, q_41_49, q_41_50, q_41_53, q_41_56, q_41_57, q_41_58, q_41_61, q_41_64, q_41_65, q_41_66, q_41_69, q_41_72, q_41_73, q_41_74, q_41_77, q_41_80, q_41_81, q_41_82, q_41_85, q_41_89, q_41_92, q_41_93, q_41_94, q_41_97, q_41_98, q_41_99, q_41_102, q_41_103, q_41_106, q_41_107, q_41_110, q_41_111, q_41_112, q_41_115, q_41_116, q_41_117, q_41_120, q_41_121, q_41_124, q_41_125, q_41_128, q_41_129, q_41_130, q_41_133, q_41_134, q_41_135, q_41_138, q_41_139, q_41_142, q_41_143, q_41_146, q_41_147, q_41_148, q_41_151, q_41_152, q_41_153, q_41_156, q_41_157, q_41_160, pm_some, Option.toList_some, Option.toList_none, List.cons_append, List.nil_append, pm_i0, pm_i1, Nat.reduceAdd, Nat.reduceMul, Int.toNat_natCast, Int.toNat_zero, pm_up_row]
    rw [hU]
    exact h88
  · rw [pm_cpz_row (by omega), pm_cpz_row (by omega), pm_cpz_row (by omega), pm_cpz_row (by omega), u1 b (by omega)]
  · rw [pm_cpz_row (by omega), pm_cpz_row (by omega), pm_cpz_row (by omega), pm_cpz_row (by omega), u2 q hq]
  · rw [pm_cpz_row (by omega), pm_cpz_row (by omega), pm_cpz_row (by omega), pm_cpz_at hq, u1 _ (by omega)]
  · rw [pm_cpz_row (by omega), pm_cpz_row (by omega), pm_cpz_at hq, pm_cpz_row (by omega), u1 _ (by omega)]
  · rw [pm_cpz_row (by omega), pm_cpz_at hq, pm_cpz_row (by omega), pm_cpz_row (by omega), u1 _ (by omega)]
  · rw [pm_cpz_at hq, pm_cpz_row (by omega), pm_cpz_row (by omega), pm_cpz_row (by omega), u1 _ (by omega)]
theorem c_copyC {a d : Nat} (L : Nat) (Z : Nat → Nat → Int) (W : Nat → Nat) (k1 : pm_kd a = 3) (k2 : pm_kd d = 3) (hne : a ≠ d) : pm_D (37, 0, [.ref d, .ref a], [], pm_hp L Z W) = some (none, pm_hp L (pm_up (pm_up (pm_up (pm_up Z d 0 (Z a 0)) d 1 (Z a 1)) d 2 (Z a 2)) d 3 (Z a 3)) W) := by
  simp (disch := first | assumption | decide +kernel | omega) only [q_37_0, q_37_1, q_37_2, q_37_5, q_37_8, q_37_9, q_37_10, q_37_13, q_37_16, q_37_17, q_37_18, q_37_21, q_37_24, q_37_25, q_37_26, q_37_29, q_37_32, pm_some, Option.toList_some, Option.toList_none, List.cons_append, List.nil_append, pm_i0, pm_i1, Nat.reduceAdd, Nat.reduceMul, Int.toNat_natCast, Int.toNat_zero, pm_up_row]
theorem l_copyM (L : Nat) (W : Nat → Nat) : ∀ (n k : Nat) (Z : Nat → Nat → Int), Z 118 4 ≤ 10 → (∀ i : Nat, (i : Int) < Z 118 4 → 0 ≤ Z (46 + 9 + 6 + 5 * i) 2 ∧ Z (46 + 9 + 6 + 5 * i) 2 ≤ 1) → (k : Int) + n = Z 118 4 → ∃ Z', pm_D (18, 48, [.ref 118, .ref 46, .int (pm_J (k : Int))], [], pm_hp L Z W) = pm_D (18, 77, [.ref 118, .ref 46, .int (pm_J (Z 118 4))], [], pm_hp L Z' W) ∧ (∀ b, ¬ (133 + 5 * k ≤ b ∧ b < 183) → Z' b = Z b) ∧ ∀ i : Nat, k ≤ i → (i : Int) < Z 118 4 → sameM Z Z' (46 + 9 + 6 + 5 * i) (118 + 9 + 6 + 5 * i) := by
  intro n
  induction n with
  | zero =>
    intro k Z hc hr hk
    have e : Z 118 4 = (k : Int) := by omega
    refine ⟨Z, ?_, fun _ _ => rfl, fun i h1 h2 => by omega⟩
    rw [q_18_48, e]
    simp (disch := first | assumption | decide +kernel | omega | (split <;> omega)) only [q_18_0, q_18_1, q_18_4, q_18_5, q_18_8, q_18_11, q_18_12, q_18_15, q_18_16, q_18_19, q_18_22, q_18_23, q_18_24, q_18_27, q_18_30, q_18_31, q_18_32, q_18_35, q_18_38, q_18_39, q_18_40, q_18_43, q_18_46, q_18_47, q_18_49, q_18_50, q_18_53, q_18_56, q_18_57, q_18_60, q_18_61, q_18_62, q_18_63, q_18_66, q_18_67, q_18_68, q_18_71, q_18_74, q_18_78, q_18_79, q_18_80, q_18_82, q_18_85, q_18_86, q_18_89, q_18_90, q_18_91, q_18_92, q_18_95, q_18_96, q_18_97, q_18_100, q_18_103, q_18_106, q_18_107, q_18_110, q_18_111, q_18_112, q_18_115, q_18_116, q_18_118, q_18_121, q_18_122, q_18_125, pm_some, Option.toList_some, Option.toList_none, List.cons_append, List.nil_append, pm_i0, pm_i1, Nat.reduceAdd, Nat.reduceMul, Int.toNat_natCast, Int.toNat_zero, not_true_eq_false, not_false_eq_true, and_self, true_and, and_true, ↓reduceIte, Int.reduceEq, Int.reduceLT, Int.reduceLE, Int.reduceNeg, Bool.false_eq_true, e, Int.lt_irrefl]
  | succ n ih =>
    intro k Z hc hr hk
    have hlt : (k : Int) < Z 118 4 := by omega
    obtain ⟨m1, -⟩ := pm_kdM (o := 46) (n := k) (Or.inl rfl) (by omega)
    obtain ⟨n1, -⟩ := pm_kdM (o := 118) (n := k) (Or.inr rfl) (by omega)
    obtain ⟨Z1, e1, f1, g1⟩ := c_copyM (k := k) (by omega) rfl rfl L Z W (hr k hlt)
    have r0 : Z1 118 = Z 118 := f1 118 (by omega)
    obtain ⟨Z2, e2, f2, g2⟩ := ih (k + 1) Z1 (by rw [r0]; exact hc) (fun i hi => by rw [r0] at hi; rw [f1 _ (by omega)]; exact hr i hi) (by rw [r0]; omega)
    rw [r0] at e2 g2
    rw [show (((k + 1 : Nat)) : Int) = (k : Int) + 1 by omega] at e2
    refine ⟨Z2, ?_, fun b hb => by rw [f2 b (by omega), f1 b (by omega)], fun i h1 h2 => ?_⟩
    · rw [q_18_48]
      simp (disch := first | assumption | decide +kernel | omega | (split <;> omega)) only [q_18_0, q_18_1, q_18_4, q_18_5, q_18_8, q_18_11, q_18_12, q_18_15, q_18_16, q_18_19, q_18_22, q_18_23, q_18_24, q_18_27, q_18_30, q_18_31, q_18_32, q_18_35, q_18_38, q_18_39, q_18_40, q_18_43, q_18_46, q_18_47, q_18_49, q_18_50, q_18_53, q_18_56, q_18_57, q_18_60, q_18_61, q_18_62, q_18_63, q_18_66, q_18_67, q_18_68, q_18_71, q_18_74, q_18_78, q_18_79, q_18_80, q_18_82, q_18_85, q_18_86, q_18_89, q_18_90, q_18_91, q_18_92, q_18_95, q_18_96, q_18_97, q_18_100, q_18_103, q_18_106, q_18_107, q_18_110, q_18_111, q_18_112, q_18_115, q_18_116, q_18_118, q_18_121, q_18_122, q_18_125, pm_some, Option.toList_some, Option.toList_none, List.cons_append, List.nil_append, pm_i0, pm_i1, Nat.reduceAdd, Nat.reduceMul, Int.toNat_natCast, Int.toNat_zero, not_true_eq_false, not_false_eq_true, and_self, true_and, and_true, ↓reduceIte, Int.reduceEq, Int.reduceLT, Int.reduceLE, Int.reduceNeg, Bool.false_eq_true, hlt, e1]
      exact e2
    · by_cases hik : i = k
      · subst hik
        unfold sameM at g1 ⊢
        rw [f2 _ (by omega), f2 _ (by omega), f2 _ (by omega), f2 _ (by omega), f2 _ (by omega)]
        exact g1
      · have := g2 i (by omega) h2
        unfold sameM at this ⊢
        rw [f1 (46 + 9 + 6 + 5 * i) (by omega), f1 (46 + 9 + 6 + 5 * i + 1) (by omega), f1 (46 + 9 + 6 + 5 * i + 2) (by omega), f1 (46 + 9 + 6 + 5 * i + 3) (by omega), f1 (46 + 9 + 6 + 5 * i + 4) (by omega)] at this
        exact this
theorem l_copyC (L : Nat) (W : Nat → Nat) : ∀ (n k : Nat) (Z : Nat → Nat → Int), k + n = 7 → ∃ Z', pm_D (18, 79, [.ref 118, .ref 46, .int (pm_J (k : Int))], [], pm_hp L Z W) = pm_D (18, 106, [.ref 118, .ref 46, .int (pm_J 7)], [], pm_hp L Z' W) ∧ (∀ b, ¬ (183 + k ≤ b ∧ b < 190) → Z' b = Z b) ∧ ∀ l q : Nat, k ≤ l → l < 7 → q < 4 → Z' (118 + 10 + 55 + l) q = Z (46 + 10 + 55 + l) q := by
  intro n
  induction n with
  | zero =>
    intro k Z hk
    obtain rfl : k = 7 := by omega
    refine ⟨Z, ?_, fun _ _ => rfl, fun l q h1 h2 h3 => by omega⟩
    rw [q_18_79]
    simp (disch := first | assumption | decide +kernel | omega | (split <;> omega)) only [q_18_0, q_18_1, q_18_4, q_18_5, q_18_8, q_18_11, q_18_12, q_18_15, q_18_16, q_18_19, q_18_22, q_18_23, q_18_24, q_18_27, q_18_30, q_18_31, q_18_32, q_18_35, q_18_38, q_18_39, q_18_40, q_18_43, q_18_46, q_18_47, q_18_48, q_18_49, q_18_50, q_18_53, q_18_56, q_18_57, q_18_60, q_18_61, q_18_62, q_18_63, q_18_66, q_18_67, q_18_68, q_18_71, q_18_74, q_18_77, q_18_78, q_18_80, q_18_82, q_18_85, q_18_86, q_18_89, q_18_90, q_18_91, q_18_92, q_18_95, q_18_96, q_18_97, q_18_100, q_18_103, q_18_107, q_18_110, q_18_111, q_18_112, q_18_115, q_18_116, q_18_118, q_18_121, q_18_122, q_18_125, pm_some, Option.toList_some, Option.toList_none, List.cons_append, List.nil_append, pm_i0, pm_i1, Nat.reduceAdd, Nat.reduceMul, Int.toNat_natCast, Int.toNat_zero, not_true_eq_false, not_false_eq_true, and_self, true_and, and_true, ↓reduceIte, Int.reduceEq, Int.reduceLT, Int.reduceLE, Int.reduceNeg, Bool.false_eq_true, Int.lt_irrefl, Int.cast_ofNat_Int]
  | succ n ih =>
    intro k Z hk
    have hlt : (k : Int) < 7 := by omega
    have kd := pm_kdC (o := 118) (n := k) (Or.inr rfl) (by omega)
    have ks := pm_kdC (o := 46) (n := k) (Or.inl rfl) (by omega)
    have hcc := c_copyC L Z W ks kd (by omega)
    obtain ⟨Z1, hZ1⟩ : ∃ U, U = pm_up (pm_up (pm_up (pm_up Z (118 + 10 + 55 + k) 0 (Z (46 + 10 + 55 + k) 0)) (118 + 10 + 55 + k) 1 (Z (46 + 10 + 55 + k) 1)) (118 + 10 + 55 + k) 2 (Z (46 + 10 + 55 + k) 2)) (118 + 10 + 55 + k) 3 (Z (46 + 10 + 55 + k) 3) := ⟨_, rfl⟩
    rw [← hZ1] at hcc
    have f1 : ∀ b, b ≠ 118 + 10 + 55 + k → Z1 b = Z b := fun b hb => by rw [hZ1]; simp (disch := exact hb) only [pm_up_row]
    have g1 : ∀ q, q < 4 → Z1 (118 + 10 + 55 + k) q = Z (46 + 10 + 55 + k) q := fun q hq => by
      rw [hZ1]
      rcases (show q = 0 ∨ q = 1 ∨ q = 2 ∨ q = 3 by omega) with rfl | rfl | rfl | rfl <;> simp [pm_up]
    obtain ⟨Z2, e2, f2, g2⟩ := ih (k + 1) Z1 (by omega)
    rw [show (((k + 1 : Nat)) : Int) = (k : Int) + 1 by omega] at e2
    refine ⟨Z2, ?_, fun b hb => by rw [f2 b (by omega), f1 b (by omega)], fun l q h1 h2 h3 => ?_⟩
    · rw [q_18_79]
      simp (disch := first | assumption | decide +kernel | omega | (split <;> omega)) only [q_18_0, q_18_1, q_18_4, q_18_5, q_18_8, q_18_11, q_18_12, q_18_15, q_18_16, q_18_19, q_18_22, q_18_23, q_18_24, q_18_27, q_18_30, q_18_31, q_18_32, q_18_35, q_18_38, q_18_39, q_18_40, q_18_43, q_18_46, q_18_47, q_18_48, q_18_49, q_18_50, q_18_53, q_18_56, q_18_57, q_18_60, q_18_61, q_18_62, q_18_63, q_18_66, q_18_67, q_18_68, q_18_71, q_18_74, q_18_77, q_18_78, q_18_80, q_18_82, q_18_85, q_18_86, q_18_89, q_18_90, q_18_91, q_18_92, q_18_95, q_18_96, q_18_97, q_18_100, q_18_103, q_18_107, q_18_110, q_18_111, q_18_112, q_18_115, q_18_116, q_18_118, q_18_121, q_18_122, q_18_125, pm_some, Option.toList_some, Option.toList_none, List.cons_append, List.nil_append, pm_i0, pm_i1, Nat.reduceAdd, Nat.reduceMul, Int.toNat_natCast, Int.toNat_zero, not_true_eq_false, not_false_eq_true, and_self, true_and, and_true, ↓reduceIte, Int.reduceEq, Int.reduceLT, Int.reduceLE, Int.reduceNeg, Bool.false_eq_true, hlt, hcc]
      exact e2
    · by_cases hlk : l = k
      · subst hlk
        rw [f2 _ (by omega), g1 q h3]
      · rw [g2 l q (by omega) h2 h3, f1 _ (by omega)]
theorem c_copyFrom {T : Int} (L : Nat) (Z : Nat → Nat → Int) (W : Nat → Nat) (H : lr 46 T Z) : ∃ Z', pm_D (18, 0, [.ref 118, .ref 46, .null], [], pm_hp L Z W) = some (none, pm_hp L Z' W) ∧ FrC 118 Z Z' ∧ lr 118 T Z' := by
  obtain ⟨⟨a1, a2, a3, a4, a5, a6, a7, a8, a9, a10, a11⟩, ⟨⟨w1, w2, w3, w4, w5, w6⟩, ⟨w7, w8, w9⟩, w10⟩, ⟨⟨f1, f2, f3⟩, f4⟩, hms, hun, hco, hsh, htk⟩ := id H
  have w7' : Z 47 5 = Z 190 5 := w7
  have f1' : Z 51 3 = Z 190 9 := f1
  obtain ⟨Z1, e1, g1, ⟨g2, g3, g4⟩, g5⟩ := c_copyW L Z W (by omega) (by omega)
  obtain ⟨Z2, e2, k1, k2, k3⟩ := c_copyF L Z1 W (by rw [g1 51 (by omega)]; omega) (by rw [g1 51 (by omega)]; omega)
  rw [g1 51 (by omega)] at k2 k3
  rw [g1 52 (by omega), g1 53 (by omega), g1 54 (by omega)] at k3
  obtain ⟨Z3, hZ3⟩ : ∃ U, U = pm_up (pm_up (pm_up Z2 118 2 (Z 190 0)) 118 3 (Z 191 0)) 118 4 (Z 190 22) := ⟨_, rfl⟩
  have u1 : ∀ b, b ≠ 118 → Z3 b = Z2 b := fun b hb => by rw [hZ3]; simp (disch := exact hb) only [pm_up_row]
  have u2 : Z3 118 2 = Z 190 0 ∧ Z3 118 3 = Z 191 0 ∧ Z3 118 4 = Z 190 22 := by rw [hZ3]; simp [pm_up]
  have z46 : Z2 46 = Z 46 := by rw [k1 46 (by omega), g1 46 (by omega)]
  have r1 : ∀ b, b < 118 ∨ 127 ≤ b → Z3 b = Z b := fun b hb => by rw [u1 b (by omega), k1 b (by omega), g1 b (by omega)]
  obtain ⟨Z4, e4, m1, m2⟩ := l_copyM L W (Z 190 22).toNat 0 Z3 (by omega) (fun i hi => by
    rw [r1 _ (by omega)]
    obtain ⟨⟨-, ⟨s8, -⟩, -⟩, -⟩ := hms i (by omega)
    rw [s8]
    split <;> omega) (by omega)
  obtain ⟨Z5, e5, n1, n2⟩ := l_copyC L W 7 0 Z4 rfl
  rw [show (((0 : Nat)) : Int) = 0 from rfl] at e4 e5
  have q2 : Z2 46 2 = Z 190 0 := by rw [z46]; exact a1
  have q3 : Z2 46 3 = Z 191 0 := by rw [z46]; exact a4
  have q4 : Z2 46 4 = Z 190 22 := by rw [z46]; exact a7
  refine ⟨pm_up (pm_cpz Z5 57 129 0 0 8) 118 11 0, ?_, fun b hb => ?_, ?_⟩
  · have h106 : pm_D (18, 106, [.ref 118, .ref 46, .int (pm_J 7)], [], pm_hp L Z5 W) = some (none, pm_hp L (pm_up (pm_cpz Z5 57 129 0 0 8) 118 11 0) W) := by
      simp (disch := first | assumption | decide +kernel | omega) only [q_18_0, q_18_1, q_18_4, q_18_5, q_18_8, q_18_11, q_18_12, q_18_15, q_18_16, q_18_19, q_18_22, q_18_23, q_18_24, q_18_27, q_18_30, q_18_31, q_18_32, q_18_35, q_18_38, q_18_39, q_18_40, q_18_43, q_18_46, q_18_47, q_18_49, q_18_50, q_18_53, q_18_56, q_18_57, q_18_60, q_18_61, q_18_62, q_18_63, q_18_66, q_18_67, q_18_68, q_18_71, q_18_74, q_18_77, q_18_78, q_18_80, q_18_82, q_18_85, q_18_86, q_18_89, q_18_90, q_18_91, q_18_92, q_18_95, q_18_96, q_18_97, q_18_100, q_18_103, q_18_106, q_18_107, q_18_110, q_18_111, q_18_112, q_18_115, q_18_116, q_18_118, q_18_121, q_18_122, q_18_125, pm_some, Option.toList_some, Option.toList_none, List.cons_append, List.nil_append, pm_i0, pm_i1, Nat.reduceAdd, Nat.reduceMul, Int.toNat_natCast, Int.toNat_zero, c_forgetTasks]
      rfl
    have h77 : pm_D (18, 77, [.ref 118, .ref 46, .int (pm_J (Z3 118 4))], [], pm_hp L Z4 W) = pm_D (18, 79, [.ref 118, .ref 46, .int (pm_J 0)], [], pm_hp L Z4 W) := by
      simp (disch := first | assumption | decide +kernel | omega) only [q_18_0, q_18_1, q_18_4, q_18_5, q_18_8, q_18_11, q_18_12, q_18_15, q_18_16, q_18_19, q_18_22, q_18_23, q_18_24, q_18_27, q_18_30, q_18_31, q_18_32, q_18_35, q_18_38, q_18_39, q_18_40, q_18_43, q_18_46, q_18_47, q_18_49, q_18_50, q_18_53, q_18_56, q_18_57, q_18_60, q_18_61, q_18_62, q_18_63, q_18_66, q_18_67, q_18_68, q_18_71, q_18_74, q_18_77, q_18_78, q_18_80, q_18_82, q_18_85, q_18_86, q_18_89, q_18_90, q_18_91, q_18_92, q_18_95, q_18_96, q_18_97, q_18_100, q_18_103, q_18_107, q_18_110, q_18_111, q_18_112, q_18_115, q_18_116, q_18_118, q_18_121, q_18_122, q_18_125, pm_some, Option.toList_some, Option.toList_none, List.cons_append, List.nil_append, pm_i0, pm_i1, Nat.reduceAdd, Nat.reduceMul, Int.toNat_natCast, Int.toNat_zero]
    have h22 : pm_D (18, 22, [.ref 118, .ref 46, .null], [], pm_hp L Z2 W) = pm_D (18, 48, [.ref 118, .ref 46, .int (pm_J 0)], [], pm_hp L Z3 W) := by
      rw [hZ3]
      simp (disch := first | assumption | decide +kernel | omega) only [q_18_0, q_18_1, q_18_4, q_18_5, q_18_8, q_18_11, q_18_12, q_18_15, q_18_16, q_18_19, q_18_22, q_18_23, q_18_24, q_18_27, q_18_30, q_18_31, q_18_32, q_18_35, q_18_38, q_18_39, q_18_40, q_18_43, q_18_46, q_18_47, q_18_49, q_18_50, q_18_53, q_18_56, q_18_57, q_18_60, q_18_61, q_18_62, q_18_63, q_18_66, q_18_67, q_18_68, q_18_71, q_18_74, q_18_78, q_18_80, q_18_82, q_18_85, q_18_86, q_18_89, q_18_90, q_18_91, q_18_92, q_18_95, q_18_96, q_18_97, q_18_100, q_18_103, q_18_107, q_18_110, q_18_111, q_18_112, q_18_115, q_18_116, q_18_118, q_18_121, q_18_122, q_18_125, pm_some, Option.toList_some, Option.toList_none, List.cons_append, List.nil_append, pm_i0, pm_i1, Nat.reduceAdd, Nat.reduceMul, Int.toNat_natCast, Int.toNat_zero, pm_up_row, q2, q3, q4]
    simp (disch := first | assumption | decide +kernel | omega) only [q_18_0, q_18_1, q_18_4, q_18_5, q_18_8, q_18_11, q_18_12, q_18_15, q_18_16, q_18_19, q_18_23, q_18_24, q_18_27, q_18_30, q_18_31, q_18_32, q_18_35, q_18_38, q_18_39, q_18_40, q_18_43, q_18_46, q_18_47, q_18_49, q_18_50, q_18_53, q_18_56, q_18_57, q_18_60, q_18_61, q_18_62, q_18_63, q_18_66, q_18_67, q_18_68, q_18_71, q_18_74, q_18_78, q_18_80, q_18_82, q_18_85, q_18_86, q_18_89, q_18_90, q_18_91, q_18_92, q_18_95, q_18_96, q_18_97, q_18_100, q_18_103, q_18_107, q_18_110, q_18_111, q_18_112, q_18_115, q_18_116, q_18_118, q_18_121, q_18_122, q_18_125, pm_some, Option.toList_some, Option.toList_none, List.cons_append, List.nil_append, pm_i0, pm_i1, Nat.reduceAdd, Nat.reduceMul, Int.toNat_natCast, Int.toNat_zero, e1, e2]
    rw [h22, e4, h77, e5]
    exact h106
  · rw [pm_up_row (by omega), pm_cpz_row (by omega), n1 b (by omega), m1 b (by omega), r1 b (by omega)]
  · have R : ∀ b, b < 118 ∨ 190 ≤ b → pm_up (pm_cpz Z5 57 129 0 0 8) 118 11 0 b = Z b := fun b hb => by rw [pm_up_row (by omega), pm_cpz_row (by omega), n1 b (by omega), m1 b (by omega), r1 b (by omega)]
    have X118 : ∀ q, q ≠ 11 → pm_up (pm_cpz Z5 57 129 0 0 8) 118 11 0 118 q = Z3 118 q := fun q hq => by rw [pm_up_ne (by omega), pm_cpz_row (by omega), n1 118 (by omega), m1 118 (by omega)]
    have X11 : pm_up (pm_cpz Z5 57 129 0 0 8) 118 11 0 118 11 = 0 := pm_up_same _ _ _ _
    have XW : ∀ b, 119 ≤ b → b < 127 → pm_up (pm_cpz Z5 57 129 0 0 8) 118 11 0 b = Z2 b := fun b h1 h2 => by rw [pm_up_row (by omega), pm_cpz_row (by omega), n1 b (by omega), m1 b (by omega), u1 b (by omega)]
    have XM : ∀ b, 133 ≤ b → b < 183 → pm_up (pm_cpz Z5 57 129 0 0 8) 118 11 0 b = Z4 b := fun b h1 h2 => by rw [pm_up_row (by omega), pm_cpz_row (by omega), n1 b (by omega)]
    have XC : ∀ b, 183 ≤ b → b < 190 → pm_up (pm_cpz Z5 57 129 0 0 8) 118 11 0 b = Z5 b := fun b h1 h2 => by rw [pm_up_row (by omega), pm_cpz_row (by omega)]
    have XS : ∀ t, t < 8 → pm_up (pm_cpz Z5 57 129 0 0 8) 118 11 0 129 t = Z 57 t := fun t ht => by rw [pm_up_row (by omega), pm_cpz_at ht, n1 57 (by omega), m1 57 (by omega), r1 57 (by omega)]
    generalize pm_up (pm_cpz Z5 57 129 0 0 8) 118 11 0 = Y at R X118 X11 XW XM XC XS ⊢
    have y190 := R 190 (by omega)
    have y191 := R 191 (by omega)
    refine ⟨?_, ?_, ?_, ?_, ?_, ?_, ?_, ?_⟩
    · unfold lr_a
      rw [y190, y191, X118 2 (by omega), X118 3 (by omega), X118 4 (by omega), X11, u2.1, u2.2.1, u2.2.2]
      exact ⟨rfl, a2, a3, rfl, a5, a6, rfl, a8, a9, by omega, by omega⟩
    · unfold lr_w
      rw [y190, R 193 (by omega), R 194 (by omega), R 195 (by omega), XW (118 + 1) (by omega) (by omega), XW (118 + 1 + 1) (by omega) (by omega), XW (118 + 1 + 2) (by omega) (by omega), XW (118 + 1 + 3) (by omega) (by omega), k1 (118 + 1) (by omega), k1 (118 + 1 + 1) (by omega), k1 (118 + 1 + 2) (by omega), k1 (118 + 1 + 3) (by omega)]
      refine ⟨⟨g2.trans w1, g3.trans w2, w3, w4, w5, w6⟩, ⟨g4.trans w7, w8, w9⟩, fun i hi => ?_⟩
      obtain ⟨p1, p2, p3⟩ := g5 i (by omega)
      obtain ⟨v1, v2, v3, v4⟩ := w10 i hi
      exact ⟨p1.trans v1, p2.trans v2, p3.trans v3, v4⟩
    · unfold lr_f
      rw [y190, R 196 (by omega), R 197 (by omega), R 198 (by omega), XW (118 + 5) (by omega) (by omega), XW (118 + 5 + 1) (by omega) (by omega), XW (118 + 5 + 2) (by omega) (by omega), XW (118 + 5 + 3) (by omega) (by omega)]
      refine ⟨⟨k2.trans f1, f2, f3⟩, fun i hi => ?_⟩
      obtain ⟨p1, p2, p3⟩ := k3 i (by omega)
      obtain ⟨v1, v2, v3, v4⟩ := f4 i hi
      exact ⟨p1.trans v1, p2.trans v2, p3.trans v3, v4⟩
    · intro i hi
      rw [y190] at hi
      have i10 : i < 10 := by omega
      obtain ⟨sm0, sm1, sm2, sm3, sm4⟩ := m2 i (Nat.zero_le _) (by omega)
      rw [r1 (46 + 9 + 6 + 5 * i) (by omega)] at sm0
      rw [r1 (46 + 9 + 6 + 5 * i + 1) (by omega)] at sm1
      rw [r1 (46 + 9 + 6 + 5 * i + 2) (by omega)] at sm2
      rw [r1 (46 + 9 + 6 + 5 * i + 3) (by omega)] at sm3
      rw [r1 (46 + 9 + 6 + 5 * i + 4) (by omega)] at sm4
      rw [← XM _ (by omega) (by omega)] at sm0 sm1 sm2 sm3 sm4
      obtain ⟨hs, hd, hl, hp, hc, ho1, ho2⟩ := hms i hi
      have b3 : 0 ≤ Z (46 + 9 + 6 + 5 * i) 3 := by
        obtain ⟨⟨p1, p2, p3, p4, p5, p6, p7⟩, ⟨p8, p9, p10⟩, -⟩ := id hs
        rw [p9]; split <;> omega
      have b4 : Z (46 + 9 + 6 + 5 * i) 4 < 8 := by
        obtain ⟨⟨p1, p2, p3, p4, p5, p6, p7⟩, ⟨p8, p9, p10⟩, -⟩ := id hs
        rw [p10]; split <;> omega
      have t0 : (Z 206 i).toNat < 8 := by
        obtain ⟨⟨p1, p2, p3, p4, p5, p6, p7⟩, -⟩ := id hs
        omega
      refine ⟨?_, ?_, ?_, ?_, ?_, ?_, ?_⟩
      · unfold lm_s at hs ⊢
        rw [sm0 0 (by omega), sm0 1 (by omega), sm0 2 (by omega), sm0 3 (by omega), sm0 4 (by omega), sm0 5 (by omega), sm0 6 (by omega), sm0 8 (by omega), y190, y191, R 205 (by omega), R 206 (by omega), R 207 (by omega), R 208 (by omega)]
        exact hs
      · unfold lm_d at hd ⊢
        rw [sm0 7 (by omega), sm0 9 (by omega), sm0 10 (by omega), y191]
        exact hd
      · intro t t1 t2
        rw [sm0 3 (by omega)] at t1
        rw [sm0 4 (by omega)] at t2
        rw [sm2 t (by omega), sm0 6 (by omega), y191]
        exact hl t t1 t2
      · intro t t1 t2
        rw [sm0 3 (by omega)] at t1
        rw [sm0 4 (by omega)] at t2
        rw [sm3 t (by omega), sm4 t (by omega), y191]
        exact hp t t1 t2
      · intro t k t1 t2 t3
        rw [sm0 3 (by omega)] at t1
        rw [sm0 4 (by omega)] at t2
        rw [sm2 t (by omega)] at t3
        have hk30 := hl t t1 t2
        have hs6 := hs.2.2.2.2.2.2.2.1
        rw [sm1 _ (by omega), y191]
        exact hc t k t1 t2 t3
      · intro t t1 t2
        rw [sm0 3 (by omega)] at t1
        rw [sm0 4 (by omega)] at t2
        rw [sm2 t (by omega), sm2 (t + 1) (by omega), R 205 (by omega), R 206 (by omega)]
        exact ho1 t t1 t2
      · intro q
        rw [sm0 7 (by omega)] at q
        rw [R 206 (by omega), sm2 _ t0, sm0 6 (by omega)]
        exact ho2 q
    · exact lr_u_congr hun (by rw [y190]) y191
    · intro l k hl hk
      rw [XC _ (by omega) (by omega), n2 l k (Nat.zero_le _) hl hk, m1 _ (by omega), r1 _ (by omega), y191]
      exact hco l k hl hk
    · intro t ht ht'
      rw [y190] at ht'
      rw [XS t ht, y191]
      exact hsh t ht ht'
    · intro h
      rw [X11] at h
      omega
