/-! run and task -/
theorem lr_mono {o : Nat} {T T' : Int} {Z : Nat → Nat → Int} (hT : T ≤ T') (h : lr o T Z) : lr o T' Z := by
  obtain ⟨ha, hw, hf, hm, hu, hc, hs, ht⟩ := h
  refine ⟨?_, hw, hf, ?_, hu, ?_, hs, ht⟩
  · obtain ⟨a1, a2, a3, a4, a5, a6, a7⟩ := ha
    exact ⟨a1, a2, a3, a4, a5, by omega, a7⟩
  · intro i hi
    obtain ⟨⟨s1, s2, s3⟩, d, m3, m4, m5, m6⟩ := hm i hi
    refine ⟨⟨s1, s2, ?_⟩, ?_, m3, m4, m5, m6⟩
    · obtain ⟨b1, b2, b3, b4, b5, b6, b7, b8, b9⟩ := s3
      exact ⟨b1, b2, b3, b4, b5, b6, b7, b8, by omega⟩
    · obtain ⟨b1, b2, b3, b4, b5, b6, b7, b8, b9⟩ := d
      exact ⟨b1, b2, b3, b4, b5, by omega, b7, b8, by omega⟩
  · intro l k hl hk
    obtain ⟨b1, b2, b3⟩ := hc l k hl hk
    exact ⟨b1, b2, by omega⟩
theorem lr_ag {o : Nat} {T : Int} {Y V : Nat → Nat → Int} (A : AgC o Y V) (B : AgR Y V) (h : lr o T V) : lr o T Y := by
  have b0 := B 190 (by omega) (by omega)
  exact lr_congr h (fun b h1 h2 => A b h1 h2) (by rw [b0]) (by rw [b0]) (by rw [b0]) (by rw [b0]) (by rw [b0]) (by rw [b0]) (B _ (by omega) (by omega)) (fun b h1 h2 => B b (by omega) (by omega)) (fun b h1 h2 => B b (by omega) (by omega))
theorem l_run (a : Int) (a1 : a ≤ 300) (L : Nat) (W : Nat → Nat) : ∀ (n k : Nat) (T : Int) (Z : Nat → Nat → Int), lr 46 T Z → Z 190 29 = -1 → 0 ≤ T → T + n ≤ 900000 → (k : Int) + n = a → ∃ V, lr 46 (T + n) V ∧ V 190 29 = -1 ∧ (∀ Y, AgC 46 Y Z → ∃ Y', pm_D (94, 16, [.ref 0, .int (pm_J a), .int (pm_J (k : Int))], [], pm_hp L Y W) = pm_D (94, 34, [.ref 0, .int (pm_J a), .int (pm_J a)], [], pm_hp L Y' W) ∧ AgC 46 Y' V ∧ FrC 46 Y Y') ∧ (∀ Y, AgR Y Z → ∃ Y', pm_D (159, 16, [.ref 190, .int (pm_J a), .int (pm_J (k : Int))], [], pm_hp L Y W) = pm_D (159, 31, [.ref 190, .int (pm_J a), .int (pm_J a)], [], pm_hp L Y' W) ∧ AgR Y' V ∧ FrR Y Y') := by
  intro n
  induction n with
  | zero =>
    intro k T Z H hon T0 T1 hk
    have ek : (k : Int) = a := by omega
    refine ⟨Z, lr_mono (by omega) H, hon, fun Y A => ⟨Y, ?_, A, FrC.rfl⟩, fun Y A => ⟨Y, ?_, A, FrR.rfl⟩⟩
    · have ar : pm_r a := by omega
      rw [q_94_16, ek]
      simp (disch := first | assumption | decide +kernel | omega | (split <;> omega)) only [q_94_0, q_94_1, q_94_2, q_94_5, q_94_8, q_94_11, q_94_13, q_94_14, q_94_15, q_94_17, q_94_18, q_94_21, q_94_22, q_94_25, q_94_28, q_94_31, q_94_35, q_94_38, q_94_41, pm_some, Option.toList_some, Option.toList_none, List.cons_append, List.nil_append, pm_i0, pm_i1, Nat.reduceAdd, Nat.reduceMul, Int.toNat_natCast, Int.toNat_zero, not_true_eq_false, not_false_eq_true, and_self, true_and, and_true, ↓reduceIte, Int.reduceEq, Int.reduceLT, Int.reduceLE, Int.reduceNeg, Bool.false_eq_true, Int.lt_irrefl]
    · have ar : pm_r a := by omega
      rw [q_159_16, ek]
      simp (disch := first | assumption | decide +kernel | omega | (split <;> omega)) only [q_159_0, q_159_1, q_159_2, q_159_5, q_159_8, q_159_11, q_159_13, q_159_14, q_159_15, q_159_17, q_159_18, q_159_21, q_159_22, q_159_25, q_159_28, q_159_32, q_159_35, pm_some, Option.toList_some, Option.toList_none, List.cons_append, List.nil_append, pm_i0, pm_i1, Nat.reduceAdd, Nat.reduceMul, Int.toNat_natCast, Int.toNat_zero, not_true_eq_false, not_false_eq_true, and_self, true_and, and_true, ↓reduceIte, Int.reduceEq, Int.reduceLT, Int.reduceLE, Int.reduceNeg, Bool.false_eq_true, Int.lt_irrefl]
  | succ n ih =>
    intro k T Z H hon T0 T1 hk
    have hlt : (k : Int) < a := by omega
    obtain ⟨V, HV, vn, -, HC, HR⟩ := minute (o := 46) (Or.inl rfl) H hon T0 (by omega) L W
    obtain ⟨V', HV', vn', HC', HR'⟩ := ih (k + 1) (T + 1) V HV vn (by omega) (by omega) (by omega)
    refine ⟨V', lr_mono (by omega) HV', vn', fun Y A => ?_, fun Y A => ?_⟩
    · obtain ⟨Y1, e1, A1, F1⟩ := HC Y A
      obtain ⟨Y2, e2, A2, F2⟩ := HC' Y1 A1
      rw [show (((k + 1 : Nat)) : Int) = (k : Int) + 1 by omega] at e2
      refine ⟨Y2, ?_, A2, FrC.trans F1 F2⟩
      rw [q_94_16]
      simp (disch := first | assumption | decide +kernel | omega | (split <;> omega)) only [q_94_0, q_94_1, q_94_2, q_94_5, q_94_8, q_94_11, q_94_13, q_94_14, q_94_15, q_94_17, q_94_18, q_94_21, q_94_22, q_94_25, q_94_28, q_94_31, q_94_35, q_94_38, q_94_41, pm_some, Option.toList_some, Option.toList_none, List.cons_append, List.nil_append, pm_i0, pm_i1, Nat.reduceAdd, Nat.reduceMul, Int.toNat_natCast, Int.toNat_zero, not_true_eq_false, not_false_eq_true, and_self, true_and, and_true, ↓reduceIte, Int.reduceEq, Int.reduceLT, Int.reduceLE, Int.reduceNeg, Bool.false_eq_true, hlt, e1]
      exact e2
    · obtain ⟨Y1, e1, A1, F1⟩ := HR Y A
      obtain ⟨Y2, e2, A2, F2⟩ := HR' Y1 A1
      rw [show (((k + 1 : Nat)) : Int) = (k : Int) + 1 by omega] at e2
      refine ⟨Y2, ?_, A2, FrR.trans F1 F2⟩
      rw [q_159_16]
      simp (disch := first | assumption | decide +kernel | omega | (split <;> omega)) only [q_159_0, q_159_1, q_159_2, q_159_5, q_159_8, q_159_11, q_159_13, q_159_14, q_159_15, q_159_17, q_159_18, q_159_21, q_159_22, q_159_25, q_159_28, q_159_32, q_159_35, pm_some, Option.toList_some, Option.toList_none, List.cons_append, List.nil_append, pm_i0, pm_i1, Nat.reduceAdd, Nat.reduceMul, Int.toNat_natCast, Int.toNat_zero, not_true_eq_false, not_false_eq_true, and_self, true_and, and_true, ↓reduceIte, Int.reduceEq, Int.reduceLT, Int.reduceLE, Int.reduceNeg, Bool.false_eq_true, hlt, e1]
      exact e2
theorem op_run : Op_run := by
  intro T L Z W hI hT0 hT a ha
  obtain ⟨⟨⟨a1, a2, a3, a4, a5, a6, a7, a8, a9, a10, a11⟩, ⟨⟨w1, w2, w3, w4, w5, w6⟩, ⟨w7, w8, w9⟩, w10⟩, ⟨⟨f1, f2, f3⟩, f4⟩, hms, hun, hco, hsh, htk⟩, htx, hbk, hon⟩ := id hI
  have a8' : 0 ≤ Z 46 4 := by omega
  have a9' : Z 46 4 ≤ 10 := by omega
  have a2' : 0 ≤ Z 46 2 := by omega
  have a3' : Z 46 2 ≤ 8 := by omega
  have a2'' : 0 ≤ Z 190 0 := by omega
  by_cases hm : 1 ≤ a ∧ a ≤ 300
  · obtain ⟨V, HV, vn, HC, HR⟩ := l_run a hm.2 L W a.toNat 0 T Z hI.1 hon hT0 (by omega) (by omega)
    obtain ⟨Z1, e1, A1, F1⟩ := HC Z (fun _ _ _ => rfl)
    have B1 : AgR Z1 Z := fun b h1 h2 => F1 b (by omega)
    obtain ⟨Z2, e2, A2, F2⟩ := HR Z1 B1
    rw [show (((0 : Nat)) : Int) = 0 from rfl] at e1 e2
    have C2 : AgC 46 Z2 V := fun b h1 h2 => by rw [F2.1 b (by omega) (by omega) (by omega)]; exact A1 b h1 h2
    have H2 : lr 46 (T + 300) Z2 := lr_mono (by omega) (lr_ag C2 A2 HV)
    have hs : ∀ b, ¬ (46 ≤ b ∧ b < 118) → b ≠ 191 → b ≠ 210 → b ≠ 211 → Z2 b = Z b := fun b h1 h2 h3 h4 => by rw [F2.1 b h2 h3 h4, F1 b h1]
    obtain ⟨v1, v2, v3⟩ := count_both HV
    obtain ⟨⟨x1, x2, x3, x4, x5, x6, x7, x8, x9, -⟩, -⟩ := id HV
    have hr := md_cu_r (fun i => V 191 (1 + i)) (V 190 22).toNat 0
    have q46 := A1 46 (by omega) (by omega)
    have q190 := A2 190 (by omega) (by omega)
    have q191 := A2 191 (by omega) (by omega)
    have hcC : pm_D (24, 0, [.ref 46, .null, .null], [], pm_hp L Z1 W) = some (some (.int (pm_J (md_cu (fun i => V 191 (1 + i)) (V 190 22).toNat 0))), pm_hp L Z1 W) := by
      have h := c_count (o := 46) (Or.inl rfl) L Z1 W (by rw [q46]; omega) (by rw [q46]; omega) (fun k hk => by
        rw [q46] at hk
        rw [A1 _ (by omega) (by omega)]
        exact v1 k hk)
      rw [q46, md_cu_congr (g := fun i => V (46 + 9 + 6 + 5 * i) 7) _ _ (fun j h1 h2 => by
        show Z1 (46 + 9 + 6 + 5 * j) 7 = _
        rw [A1 _ (by omega) (by omega)]), v3] at h
      exact h
    have hcR : pm_D (158, 0, [.ref 190, .null, .null], [], pm_hp L Z2 W) = some (some (.int (pm_J (md_cu (fun i => V 191 (1 + i)) (V 190 22).toNat 0))), pm_hp L Z2 W) := by
      have h := c_R_count L Z2 W (by rw [q190]; omega) (by rw [q190]; omega) (fun k hk => by
        rw [q190] at hk
        rw [q191]
        exact v2 k hk)
      rw [q190, q191] at h
      exact h
    have ar : pm_r a := ha
    refine ⟨md_cu (fun i => V 191 (1 + i)) (V 190 22).toNat 0, Z1, W, Z2, W, by omega, ?_, ?_, ⟨H2, tx_congr htx (by rw [hs 1 (by omega) (by omega) (by omega) (by omega)]) (hs _ (by omega) (by omega) (by omega) (by omega)) (by rw [hs 190 (by omega) (by omega) (by omega) (by omega)]) (hs _ (by omega) (by omega) (by omega) (by omega)), bk_congr hbk (by rw [hs 3 (by omega) (by omega) (by omega) (by omega)]) (fun b _ _ => hs _ (by omega) (by omega) (by omega) (by omega)) (by rw [hs 190 (by omega) (by omega) (by omega) (by omega)]) (hs _ (by omega) (by omega) (by omega) (by omega)) (hs _ (by omega) (by omega) (by omega) (by omega)) (hs _ (by omega) (by omega) (by omega) (by omega)) (hs _ (by omega) (by omega) (by omega) (by omega)), by rw [hs 190 (by omega) (by omega) (by omega) (by omega)]; exact hon⟩, F1 _ (by omega), hs _ (by omega) (by omega) (by omega) (by omega)⟩
    · have h34 : pm_D (94, 34, [.ref 0, .int (pm_J a), .int (pm_J a)], [], pm_hp L Z1 W) = some (some (.int (pm_J (md_cu (fun i => V 191 (1 + i)) (V 190 22).toNat 0))), pm_hp L Z1 W) := by
        simp (disch := first | assumption | decide +kernel | omega | (split <;> omega)) only [q_94_0, q_94_1, q_94_2, q_94_5, q_94_8, q_94_11, q_94_13, q_94_14, q_94_15, q_94_17, q_94_18, q_94_21, q_94_22, q_94_25, q_94_28, q_94_31, q_94_34, q_94_35, q_94_38, q_94_41, pm_some, Option.toList_some, Option.toList_none, List.cons_append, List.nil_append, pm_i0, pm_i1, Nat.reduceAdd, Nat.reduceMul, Int.toNat_natCast, Int.toNat_zero, hcC]
      simp (disch := first | assumption | decide +kernel | omega | (split <;> omega)) only [q_94_0, q_94_1, q_94_2, q_94_5, q_94_8, q_94_11, q_94_13, q_94_14, q_94_15, q_94_17, q_94_18, q_94_21, q_94_22, q_94_25, q_94_28, q_94_31, q_94_35, q_94_38, q_94_41, c_isWithin, pm_some, Option.toList_some, Option.toList_none, List.cons_append, List.nil_append, pm_i0, pm_i1, Nat.reduceAdd, Nat.reduceMul, Int.toNat_natCast, Int.toNat_zero, hm, not_true_eq_false, not_false_eq_true, and_self, true_and, and_true, ↓reduceIte, Int.reduceEq, Int.reduceLT, Int.reduceLE, Int.reduceNeg, Bool.false_eq_true, e1]
      exact h34
    · have h31 : pm_D (159, 31, [.ref 190, .int (pm_J a), .int (pm_J a)], [], pm_hp L Z2 W) = some (some (.int (pm_J (md_cu (fun i => V 191 (1 + i)) (V 190 22).toNat 0))), pm_hp L Z2 W) := by
        simp (disch := first | assumption | decide +kernel | omega | (split <;> omega)) only [q_159_0, q_159_1, q_159_2, q_159_5, q_159_8, q_159_11, q_159_13, q_159_14, q_159_15, q_159_17, q_159_18, q_159_21, q_159_22, q_159_25, q_159_28, q_159_31, q_159_32, q_159_35, pm_some, Option.toList_some, Option.toList_none, List.cons_append, List.nil_append, pm_i0, pm_i1, Nat.reduceAdd, Nat.reduceMul, Int.toNat_natCast, Int.toNat_zero, hcR]
      simp (disch := first | assumption | decide +kernel | omega | (split <;> omega)) only [q_159_0, q_159_1, q_159_2, q_159_5, q_159_8, q_159_11, q_159_13, q_159_14, q_159_15, q_159_17, q_159_18, q_159_21, q_159_22, q_159_25, q_159_28, q_159_32, q_159_35, c_in, pm_some, Option.toList_some, Option.toList_none, List.cons_append, List.nil_append, pm_i0, pm_i1, Nat.reduceAdd, Nat.reduceMul, Int.toNat_natCast, Int.toNat_zero, hm, not_true_eq_false, not_false_eq_true, and_self, true_and, and_true, ↓reduceIte, Int.reduceEq, Int.reduceLT, Int.reduceLE, Int.reduceNeg, Bool.false_eq_true, e2]
      exact h31
  · refine Op.same hI (-3) (by decide) ?_ ?_
    · simp (disch := first | assumption | decide +kernel | omega | (split <;> omega)) only [q_94_0, q_94_1, q_94_2, q_94_5, q_94_8, q_94_11, q_94_13, q_94_14, q_94_15, q_94_16, q_94_17, q_94_18, q_94_21, q_94_22, q_94_25, q_94_28, q_94_31, q_94_34, q_94_35, q_94_38, q_94_41, c_isWithin, pm_some, Option.toList_some, Option.toList_none, List.cons_append, List.nil_append, pm_i0, pm_i1, Nat.reduceAdd, Nat.reduceMul, Int.toNat_natCast, Int.toNat_zero, hm, not_true_eq_false, not_false_eq_true, and_self, true_and, and_true, ↓reduceIte, Int.reduceEq, Int.reduceLT, Int.reduceLE, Int.reduceNeg, Bool.false_eq_true]
    · simp (disch := first | assumption | decide +kernel | omega | (split <;> omega)) only [q_159_0, q_159_1, q_159_2, q_159_5, q_159_8, q_159_11, q_159_13, q_159_14, q_159_15, q_159_16, q_159_17, q_159_18, q_159_21, q_159_22, q_159_25, q_159_28, q_159_31, q_159_32, q_159_35, c_in, pm_some, Option.toList_some, Option.toList_none, List.cons_append, List.nil_append, pm_i0, pm_i1, Nat.reduceAdd, Nat.reduceMul, Int.toNat_natCast, Int.toNat_zero, hm, not_true_eq_false, not_false_eq_true, and_self, true_and, and_true, ↓reduceIte, Int.reduceEq, Int.reduceLT, Int.reduceLE, Int.reduceNeg, Bool.false_eq_true]
theorem op_task : Op_task := by
  intro T L Z W hI hT0 hT a b ha hb
  obtain ⟨⟨⟨a1, a2, a3, a4, a5, a6, a7, a8, a9, a10, a11⟩, ⟨⟨w1, w2, w3, w4, w5, w6⟩, ⟨w7, w8, w9⟩, w10⟩, ⟨⟨f1, f2, f3⟩, f4⟩, hms, hun, hco, hsh, htk⟩, htx, hbk, hon⟩ := id hI
  have a8' : 0 ≤ Z 46 4 := by omega
  have a9' : Z 46 4 ≤ 10 := by omega
  have a2' : 0 ≤ Z 46 2 := by omega
  have a3' : Z 46 2 ≤ 8 := by omega
  have a2'' : 0 ≤ Z 190 0 := by omega
  by_cases hm : 0 ≤ a ∧ a < Z 190 0
  · by_cases hw : 0 ≤ b ∧ b ≤ 1
    · have hcp : ∀ u : Int, cm_pick 46 Z u (Z 46 4).toNat = md_pick Z u (Z 190 22).toNat := fun u => by
        rw [show Z 46 4 = Z 190 22 from a7]
        exact cm_pick_eq (n := (Z 190 22).toNat) (fun i hi => hms i (by omega)) u _ (Nat.le_refl _)
      obtain ⟨Z1, e1, f1, f1o, f1e, f1n, f1p⟩ := c_chooseTasks (o := 46) (Or.inl rfl) L Z W (by omega) (by omega) (by omega) (by omega) a10 a11 (fun i hi => cm_ok_of (hms i (by omega)) a3) (fun h u hu => by rw [hcp]; exact htk h u (by omega))
      simp only [hcp] at f1p
      have q190 : Z1 190 = Z 190 := f1 _ (by omega) (by omega) (by omega)
      have hR1 : rok Z1 := rok_congr (rok_of_lr hI.1 (by rw [hon]; decide)) q190 (f1 _ (by omega) (by omega) (by omega)) (f1 _ (by omega) (by omega) (by omega)) (f1 _ (by omega) (by omega) (by omega)) (f1 _ (by omega) (by omega) (by omega))
      have hat : ((a.toNat : Nat) : Int) = a := by omega
      obtain ⟨Z2, e2, f2, f2u, f2t, f2l, -⟩ := c_R_take a.toNat L Z1 W hR1 (by rw [q190]; omega)
      have hrp : ∀ u : Int, rk_pick Z1 u (Z1 190 22).toNat = md_pick Z u (Z 190 22).toNat := fun u => by
        rw [q190, rk_pick_congr q190 (f1 _ (by omega) (by omega) (by omega)) (f1 _ (by omega) (by omega) (by omega)) (f1 _ (by omega) (by omega) (by omega)) (f1 _ (by omega) (by omega) (by omega))]
        exact rk_pick_eq hon u _
      rw [hrp] at f2t f2l
      rw [hat] at e2 f2t f2l
      have hp := f1p a.toNat (by omega)
      rw [hat] at hp
      have hsp := md_pick_spec Z a (Z 190 22).toNat
      have hs : ∀ c, c ≠ 46 → c ≠ 59 → c ≠ 60 → c ≠ 210 → c ≠ 211 → Z2 c = Z c := fun c h1 h2 h3 h4 h5 => by rw [f2 c h4 h5, f1 c h1 h2 h3]
      have s46 : ∀ q, q ≠ 11 → Z2 46 q = Z 46 q := fun q hq => by rw [f2 46 (by omega) (by omega), f1o q hq]
      have t11 : Z2 46 11 = 1 := by rw [f2 46 (by omega) (by omega)]; exact f1e
      have hI2 : Inv T Z2 W := by
        have g190 := hs 190 (by omega) (by omega) (by omega) (by omega) (by omega)
        obtain ⟨⟨ra, rw_, rf, rm, ru, rc, rs, rt⟩, -⟩ := id hI
        refine ⟨⟨?_, ?_, ?_, ?_, ?_, ?_, ?_, ?_⟩, ?_, ?_, ?_⟩
        · unfold lr_a
          rw [s46 2 (by omega), s46 3 (by omega), s46 4 (by omega), t11, g190, hs 191 (by omega) (by omega) (by omega) (by omega) (by omega)]
          exact ⟨a1, a2, a3, a4, a5, a6, a7, a8, a9, by omega, by omega⟩
        · exact lr_w_congr rw_ (hs _ (by omega) (by omega) (by omega) (by omega) (by omega)) (hs _ (by omega) (by omega) (by omega) (by omega) (by omega)) (hs _ (by omega) (by omega) (by omega) (by omega) (by omega)) (hs _ (by omega) (by omega) (by omega) (by omega) (by omega)) (by rw [g190]) (by rw [g190]) (by rw [g190]) (hs _ (by omega) (by omega) (by omega) (by omega) (by omega)) (hs _ (by omega) (by omega) (by omega) (by omega) (by omega)) (hs _ (by omega) (by omega) (by omega) (by omega) (by omega))
        · exact lr_f_congr rf (hs _ (by omega) (by omega) (by omega) (by omega) (by omega)) (hs _ (by omega) (by omega) (by omega) (by omega) (by omega)) (hs _ (by omega) (by omega) (by omega) (by omega) (by omega)) (hs _ (by omega) (by omega) (by omega) (by omega) (by omega)) (by rw [g190]) (hs _ (by omega) (by omega) (by omega) (by omega) (by omega)) (hs _ (by omega) (by omega) (by omega) (by omega) (by omega)) (hs _ (by omega) (by omega) (by omega) (by omega) (by omega))
        · intro i hi
          rw [g190] at hi
          have i10 : i < 10 := by omega
          exact lm_congr (rm i hi) (hs _ (by omega) (by omega) (by omega) (by omega) (by omega)) (hs _ (by omega) (by omega) (by omega) (by omega) (by omega)) (hs _ (by omega) (by omega) (by omega) (by omega) (by omega)) (hs _ (by omega) (by omega) (by omega) (by omega) (by omega)) (hs _ (by omega) (by omega) (by omega) (by omega) (by omega)) (by rw [g190]) a3 (by rw [hs 205 (by omega) (by omega) (by omega) (by omega) (by omega)]) (by rw [hs 206 (by omega) (by omega) (by omega) (by omega) (by omega)]) (by rw [hs 207 (by omega) (by omega) (by omega) (by omega) (by omega)]) (by rw [hs 208 (by omega) (by omega) (by omega) (by omega) (by omega)]) (fun q _ => by rw [hs 191 (by omega) (by omega) (by omega) (by omega) (by omega)])
        · exact lr_u_congr ru (by rw [g190]) (hs _ (by omega) (by omega) (by omega) (by omega) (by omega))
        · exact lr_c_congr rc (fun l hl => hs _ (by omega) (by omega) (by omega) (by omega) (by omega)) (fun q _ _ => by rw [hs 191 (by omega) (by omega) (by omega) (by omega) (by omega)])
        · exact lr_s_congr rs (hs _ (by omega) (by omega) (by omega) (by omega) (by omega)) (by rw [g190]) (fun q _ _ => by rw [hs 191 (by omega) (by omega) (by omega) (by omega) (by omega)])
        · intro _ t ht
          rw [g190] at ht ⊢
          rw [md_pick_congr (hs _ (by omega) (by omega) (by omega) (by omega) (by omega)) (hs _ (by omega) (by omega) (by omega) (by omega) (by omega)) (hs _ (by omega) (by omega) (by omega) (by omega) (by omega)) (hs _ (by omega) (by omega) (by omega) (by omega) (by omega)), f2 _ (by omega) (by omega), f2 _ (by omega) (by omega)]
          exact f1p t (by omega)
        · exact tx_congr htx (by rw [hs 1 (by omega) (by omega) (by omega) (by omega) (by omega)]) (hs _ (by omega) (by omega) (by omega) (by omega) (by omega)) (by rw [g190]) (hs _ (by omega) (by omega) (by omega) (by omega) (by omega))
        · exact bk_congr hbk (by rw [hs 3 (by omega) (by omega) (by omega) (by omega) (by omega)]) (fun b _ _ => hs _ (by omega) (by omega) (by omega) (by omega) (by omega)) (by rw [g190]) (hs _ (by omega) (by omega) (by omega) (by omega) (by omega)) (hs _ (by omega) (by omega) (by omega) (by omega) (by omega)) (hs _ (by omega) (by omega) (by omega) (by omega) (by omega)) (hs _ (by omega) (by omega) (by omega) (by omega) (by omega))
        · rw [g190]; exact hon
      have z13 : Z1 59 a.toNat = (md_pick Z a (Z 190 22).toNat).1 := hp.1
      have z14 : Z1 60 a.toNat = (md_pick Z a (Z 190 22).toNat).2 := hp.2
      have g0 : 0 ≤ Z1 190 0 := by rw [q190]; omega
      have g1 : Z1 190 0 ≤ 8 := by rw [q190]; omega
      have z0 : Z1 190 0 = Z 190 0 := by rw [q190]
      have hmr : pm_r ((md_pick Z a (Z 190 22).toNat).1) ∧ pm_r ((md_pick Z a (Z 190 22).toNat).2) ∧ ((md_pick Z a (Z 190 22).toNat).1 < 0 → md_pick Z a (Z 190 22).toNat = (-6, -6)) := by
        rcases hsp with h | ⟨m, h1, h2, h3⟩
        · rw [h]
          exact ⟨by decide, by decide, fun _ => rfl⟩
        · rw [h2]
          have := md_lk_r (i := m) (Z := Z) a
          refine ⟨?_, ?_, fun q => ?_⟩
          · show pm_r (m : Int)
            omega
          · show pm_r (md_lk Z m a)
            omega
          · have : (m : Int) < 0 := q
            omega
      obtain ⟨mr1, mr2, mr3⟩ := hmr
      by_cases hneg : (md_pick Z a (Z 190 22).toNat).1 < 0
      · rw [mr3 hneg] at z13 z14
        rw [if_pos hneg] at f2t
        refine ⟨-6, Z1, W, Z2, W, by decide, ?_, ?_, Inv.up hI2, f1 _ (by omega) (by omega) (by omega), hs _ (by omega) (by omega) (by omega) (by omega) (by omega)⟩
        · rcases (show b = 0 ∨ b = 1 by omega) with rfl | rfl
          · simp (disch := first | assumption | decide +kernel | omega | (split <;> omega)) only [q_97_0, q_97_1, q_97_4, q_97_5, q_97_8, q_97_11, q_97_12, q_97_13, q_97_14, q_97_15, q_97_16, q_97_19, q_97_22, q_97_24, q_97_25, q_97_26, q_97_29, q_97_32, q_97_33, q_97_36, q_97_37, q_97_40, q_97_43, q_97_44, q_97_45, q_97_48, q_97_49, q_97_52, q_97_55, q_97_56, q_97_57, c_hasTower, c_isWithin, pm_some, Option.toList_some, Option.toList_none, List.cons_append, List.nil_append, pm_i0, pm_i1, Nat.reduceAdd, Nat.reduceMul, Int.toNat_natCast, Int.toNat_zero, a1, hm, not_true_eq_false, not_false_eq_true, and_self, true_and, and_true, ↓reduceIte, Int.reduceEq, Int.reduceLT, Int.reduceLE, Int.reduceNeg, Bool.false_eq_true, e1, z13]
          · simp (disch := first | assumption | decide +kernel | omega | (split <;> omega)) only [q_97_0, q_97_1, q_97_4, q_97_5, q_97_8, q_97_11, q_97_12, q_97_13, q_97_14, q_97_15, q_97_16, q_97_19, q_97_22, q_97_24, q_97_25, q_97_26, q_97_29, q_97_32, q_97_33, q_97_36, q_97_37, q_97_40, q_97_43, q_97_44, q_97_45, q_97_48, q_97_49, q_97_52, q_97_55, q_97_56, q_97_57, c_hasTower, c_isWithin, pm_some, Option.toList_some, Option.toList_none, List.cons_append, List.nil_append, pm_i0, pm_i1, Nat.reduceAdd, Nat.reduceMul, Int.toNat_natCast, Int.toNat_zero, a1, hm, not_true_eq_false, not_false_eq_true, and_self, true_and, and_true, ↓reduceIte, Int.reduceEq, Int.reduceLT, Int.reduceLE, Int.reduceNeg, Bool.false_eq_true, e1, z14]
        · simp (disch := first | assumption | decide +kernel | omega | (split <;> omega)) only [q_162_0, q_162_1, q_162_2, q_162_5, q_162_8, q_162_9, q_162_10, q_162_11, q_162_12, q_162_13, q_162_16, q_162_19, q_162_21, q_162_22, q_162_23, q_162_24, q_162_27, q_162_28, q_162_31, q_162_32, q_162_33, q_162_36, q_162_38, q_162_41, q_162_42, q_162_45, q_162_46, q_162_49, q_162_50, q_162_51, q_162_54, q_162_55, q_162_58, q_162_59, q_162_60, c_noTower, c_in, pm_some, Option.toList_some, Option.toList_none, List.cons_append, List.nil_append, pm_i0, pm_i1, Nat.reduceAdd, Nat.reduceMul, Int.toNat_natCast, Int.toNat_zero, z0, hm, hw, not_true_eq_false, not_false_eq_true, and_self, true_and, and_true, ↓reduceIte, Int.reduceEq, Int.reduceLT, Int.reduceLE, Int.reduceNeg, Bool.false_eq_true, e2, f2t]
      · have hnn : 0 ≤ (md_pick Z a (Z 190 22).toNat).1 := by omega
        rw [if_neg hneg] at f2t
        have f2l' := f2l hnn
        rcases (show b = 0 ∨ b = 1 by omega) with rfl | rfl
        · refine ⟨(md_pick Z a (Z 190 22).toNat).1, Z1, W, Z2, W, mr1, ?_, ?_, Inv.up hI2, f1 _ (by omega) (by omega) (by omega), hs _ (by omega) (by omega) (by omega) (by omega) (by omega)⟩
          · simp (disch := first | assumption | decide +kernel | omega | (split <;> omega)) only [q_97_0, q_97_1, q_97_4, q_97_5, q_97_8, q_97_11, q_97_12, q_97_13, q_97_14, q_97_15, q_97_16, q_97_19, q_97_22, q_97_24, q_97_25, q_97_26, q_97_29, q_97_32, q_97_33, q_97_36, q_97_37, q_97_40, q_97_43, q_97_44, q_97_45, q_97_48, q_97_49, q_97_52, q_97_55, q_97_56, q_97_57, c_hasTower, c_isWithin, pm_some, Option.toList_some, Option.toList_none, List.cons_append, List.nil_append, pm_i0, pm_i1, Nat.reduceAdd, Nat.reduceMul, Int.toNat_natCast, Int.toNat_zero, a1, hm, not_true_eq_false, not_false_eq_true, and_self, true_and, and_true, ↓reduceIte, Int.reduceEq, Int.reduceLT, Int.reduceLE, Int.reduceNeg, Bool.false_eq_true, e1, z13]
          · simp (disch := first | assumption | decide +kernel | omega | (split <;> omega)) only [q_162_0, q_162_1, q_162_2, q_162_5, q_162_8, q_162_9, q_162_10, q_162_11, q_162_12, q_162_13, q_162_16, q_162_19, q_162_21, q_162_22, q_162_23, q_162_24, q_162_27, q_162_28, q_162_31, q_162_32, q_162_33, q_162_36, q_162_38, q_162_41, q_162_42, q_162_45, q_162_46, q_162_49, q_162_50, q_162_51, q_162_54, q_162_55, q_162_58, q_162_59, q_162_60, c_noTower, c_in, pm_some, Option.toList_some, Option.toList_none, List.cons_append, List.nil_append, pm_i0, pm_i1, Nat.reduceAdd, Nat.reduceMul, Int.toNat_natCast, Int.toNat_zero, z0, hm, not_true_eq_false, not_false_eq_true, and_self, true_and, and_true, ↓reduceIte, Int.reduceEq, Int.reduceLT, Int.reduceLE, Int.reduceNeg, Bool.false_eq_true, e2, f2t, hneg, hnn]
        · refine ⟨(md_pick Z a (Z 190 22).toNat).2, Z1, W, Z2, W, mr2, ?_, ?_, Inv.up hI2, f1 _ (by omega) (by omega) (by omega), hs _ (by omega) (by omega) (by omega) (by omega) (by omega)⟩
          · simp (disch := first | assumption | decide +kernel | omega | (split <;> omega)) only [q_97_0, q_97_1, q_97_4, q_97_5, q_97_8, q_97_11, q_97_12, q_97_13, q_97_14, q_97_15, q_97_16, q_97_19, q_97_22, q_97_24, q_97_25, q_97_26, q_97_29, q_97_32, q_97_33, q_97_36, q_97_37, q_97_40, q_97_43, q_97_44, q_97_45, q_97_48, q_97_49, q_97_52, q_97_55, q_97_56, q_97_57, c_hasTower, c_isWithin, pm_some, Option.toList_some, Option.toList_none, List.cons_append, List.nil_append, pm_i0, pm_i1, Nat.reduceAdd, Nat.reduceMul, Int.toNat_natCast, Int.toNat_zero, a1, hm, not_true_eq_false, not_false_eq_true, and_self, true_and, and_true, ↓reduceIte, Int.reduceEq, Int.reduceLT, Int.reduceLE, Int.reduceNeg, Bool.false_eq_true, e1, z14]
          · simp (disch := first | assumption | decide +kernel | omega | (split <;> omega)) only [q_162_0, q_162_1, q_162_2, q_162_5, q_162_8, q_162_9, q_162_10, q_162_11, q_162_12, q_162_13, q_162_16, q_162_19, q_162_21, q_162_22, q_162_23, q_162_24, q_162_27, q_162_28, q_162_31, q_162_32, q_162_33, q_162_36, q_162_38, q_162_41, q_162_42, q_162_45, q_162_46, q_162_49, q_162_50, q_162_51, q_162_54, q_162_55, q_162_58, q_162_59, q_162_60, c_noTower, c_in, pm_some, Option.toList_some, Option.toList_none, List.cons_append, List.nil_append, pm_i0, pm_i1, Nat.reduceAdd, Nat.reduceMul, Int.toNat_natCast, Int.toNat_zero, z0, hm, not_true_eq_false, not_false_eq_true, and_self, true_and, and_true, ↓reduceIte, Int.reduceEq, Int.reduceLT, Int.reduceLE, Int.reduceNeg, Bool.false_eq_true, e2, f2t, f2l', hneg, hnn]
    · refine Op.same hI (-3) (by decide) ?_ ?_
      · simp (disch := first | assumption | decide +kernel | omega | (split <;> omega)) only [q_97_0, q_97_1, q_97_4, q_97_5, q_97_8, q_97_11, q_97_12, q_97_13, q_97_14, q_97_15, q_97_16, q_97_19, q_97_22, q_97_24, q_97_25, q_97_26, q_97_29, q_97_32, q_97_33, q_97_36, q_97_37, q_97_40, q_97_43, q_97_44, q_97_45, q_97_48, q_97_49, q_97_52, q_97_55, q_97_56, q_97_57, c_hasTower, c_isWithin, pm_some, Option.toList_some, Option.toList_none, List.cons_append, List.nil_append, pm_i0, pm_i1, Nat.reduceAdd, Nat.reduceMul, Int.toNat_natCast, Int.toNat_zero, a1, hm, hw, not_true_eq_false, not_false_eq_true, and_self, true_and, and_true, ↓reduceIte, Int.reduceEq, Int.reduceLT, Int.reduceLE, Int.reduceNeg, Bool.false_eq_true]
      · simp (disch := first | assumption | decide +kernel | omega | (split <;> omega)) only [q_162_0, q_162_1, q_162_2, q_162_5, q_162_8, q_162_9, q_162_10, q_162_11, q_162_12, q_162_13, q_162_16, q_162_19, q_162_21, q_162_22, q_162_23, q_162_24, q_162_27, q_162_28, q_162_31, q_162_32, q_162_33, q_162_36, q_162_38, q_162_41, q_162_42, q_162_45, q_162_46, q_162_49, q_162_50, q_162_51, q_162_54, q_162_55, q_162_58, q_162_59, q_162_60, c_noTower, c_in, pm_some, Option.toList_some, Option.toList_none, List.cons_append, List.nil_append, pm_i0, pm_i1, Nat.reduceAdd, Nat.reduceMul, Int.toNat_natCast, Int.toNat_zero, hm, hw, not_true_eq_false, not_false_eq_true, and_self, true_and, and_true, ↓reduceIte, Int.reduceEq, Int.reduceLT, Int.reduceLE, Int.reduceNeg, Bool.false_eq_true]
  · refine Op.same hI (-1) (by decide) ?_ ?_
    · simp (disch := first | assumption | decide +kernel | omega | (split <;> omega)) only [q_97_0, q_97_1, q_97_4, q_97_5, q_97_8, q_97_11, q_97_12, q_97_13, q_97_14, q_97_15, q_97_16, q_97_19, q_97_22, q_97_24, q_97_25, q_97_26, q_97_29, q_97_32, q_97_33, q_97_36, q_97_37, q_97_40, q_97_43, q_97_44, q_97_45, q_97_48, q_97_49, q_97_52, q_97_55, q_97_56, q_97_57, c_hasTower, pm_some, Option.toList_some, Option.toList_none, List.cons_append, List.nil_append, pm_i0, pm_i1, Nat.reduceAdd, Nat.reduceMul, Int.toNat_natCast, Int.toNat_zero, a1, hm, not_true_eq_false, not_false_eq_true, and_self, true_and, and_true, ↓reduceIte, Int.reduceEq, Int.reduceLT, Int.reduceLE, Int.reduceNeg, Bool.false_eq_true]
    · simp (disch := first | assumption | decide +kernel | omega | (split <;> omega)) only [q_162_0, q_162_1, q_162_2, q_162_5, q_162_8, q_162_9, q_162_10, q_162_11, q_162_12, q_162_13, q_162_16, q_162_19, q_162_21, q_162_22, q_162_23, q_162_24, q_162_27, q_162_28, q_162_31, q_162_32, q_162_33, q_162_36, q_162_38, q_162_41, q_162_42, q_162_45, q_162_46, q_162_49, q_162_50, q_162_51, q_162_54, q_162_55, q_162_58, q_162_59, q_162_60, c_noTower, pm_some, Option.toList_some, Option.toList_none, List.cons_append, List.nil_append, pm_i0, pm_i1, Nat.reduceAdd, Nat.reduceMul, Int.toNat_natCast, Int.toNat_zero, hm, not_true_eq_false, not_false_eq_true, and_self, true_and, and_true, ↓reduceIte, Int.reduceEq, Int.reduceLT, Int.reduceLE, Int.reduceNeg, Bool.false_eq_true]
