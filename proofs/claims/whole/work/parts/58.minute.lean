/-! a minute keeps the relation -/
theorem rok_of_lr {o : Nat} {T : Int} {Z : Nat → Nat → Int} (H : lr o T Z) (hr : pm_r (Z 190 29)) : rok Z := by
  obtain ⟨⟨a1, a2, a3, a4, a5, a6, a7, a8, a9, a10, a11⟩, -, -, hms, -⟩ := H
  refine ⟨a2, a3, a8, a9, hr, fun i hi => ?_⟩
  obtain ⟨⟨⟨s1, s2, s3, s4, s5, s6, s7⟩, ⟨s8, s9, s10⟩, s11, s12, s13, s14, s15, s16, s17, s18, s19⟩, ⟨d1, d2, d3, d4, d5, d6, d7, d8, d9⟩, ml, mp, mc, mo⟩ := hms i hi
  refine ⟨⟨s3, s4, s5, s6⟩, ⟨s12, s13⟩, by omega, fun t h1 h2 => ?_⟩
  rw [← s9] at h1
  rw [← s10] at h2
  have := ml t h1 h2
  omega
theorem rok_of_mid {o l : Nat} {T : Int} {V0 V : Nat → Nat → Int} (S : mst o T V0) (M : mid o l T V0 V) : rok V := by
  obtain ⟨⟨s1, s2, s3, s4, s5, s6, s7, s8, s9, s10, s11, s12⟩, -⟩ := id S
  obtain ⟨⟨mr, ⟨mo, mo1, mo2⟩, mq, mlen⟩, mm, mu, mc, ms, ml⟩ := id M
  have v190 : V 190 = V0 190 := mr 190 (Or.inl rfl)
  refine ⟨by rw [v190]; exact s2, by rw [v190]; exact s3, by rw [v190]; exact s8, by rw [v190]; exact s9, by rw [v190, s10]; decide, fun i hi => ?_⟩
  rw [v190] at hi
  obtain ⟨⟨⟨p1, p2, p3, p4, p5, p6, p7⟩, ⟨p8, p9, p10⟩, z1, z2, z3, z4, z5, z6, z7⟩, ⟨d1, d2, -⟩, hL, -⟩ := mm i hi
  refine ⟨⟨p3, p4, p5, p6⟩, ⟨z2, z3⟩, by omega, fun t h1 h2 => ?_⟩
  rw [← p9] at h1
  rw [← p10] at h2
  have := hL t h1 h2
  omega
theorem c_start_lr {o : Nat} (ho : pm_isL o) {T : Int} {Z Y : Nat → Nat → Int} (H : lr o T Z) (T1 : T ≤ 900000) (A : AgC o Y Z) (L : Nat) (W : Nat → Nat) : ∃ Y', pm_D (28, 0, [.ref o, .null], [], pm_hp L Y W) = pm_D (28, 35, [.ref o, .int (pm_J 0)], [], pm_hp L Y' W) ∧ St o Y Y' := by
  obtain ⟨⟨a1, a2, a3, a4, a5, a6, a7, a8, a9, a10, a11⟩, ⟨⟨w1, w2, w3, w4, w5, w6⟩, ⟨w7, w8, w9⟩, w10⟩, -, hms, -, -, -, htk⟩ := H
  have ao := A o (by omega) (by omega)
  have y1 := A (o + 1) (by omega) (by omega)
  have y2 := A (o + 1 + 1) (by omega) (by omega)
  have y3 := A (o + 1 + 2) (by omega) (by omega)
  have y4 := A (o + 1 + 3) (by omega) (by omega)
  have hp : ∀ u : Int, cm_pick o Y u (Y o 4).toNat = md_pick Z u (Z 190 22).toNat := fun u => by
    rw [ao, a7, cm_pick_congr (n := (Z 190 22).toNat) (fun i hi => ⟨A _ (by omega) (by omega), A _ (by omega) (by omega)⟩) u _ (Nat.le_refl _)]
    exact cm_pick_eq (n := (Z 190 22).toNat) (fun i hi => hms i (by omega)) u _ (Nat.le_refl _)
  refine c_start ho L Y W ?_ ?_ ?_ ?_ ?_ ?_ ?_ ?_ ?_ ?_ ?_ ?_ ?_ ?_ ?_ ?_ ?_
  · rw [ao]; omega
  · rw [ao]; omega
  · rw [ao]; omega
  · rw [ao]; omega
  · rw [ao]; omega
  · rw [ao]; omega
  · intro i hi
    rw [ao] at hi
    exact cm_ok_congr (cm_ok_of (hms i (by omega)) a3) (A _ (by omega) (by omega)) (A _ (by omega) (by omega))
  · intro h u hu
    rw [ao] at h hu
    rw [hp, A (o + 13) (by omega) (by omega), A (o + 14) (by omega) (by omega)]
    exact htk h u (by omega)
  · rw [ao]; omega
  · rw [ao]; omega
  · rw [y1]; omega
  · rw [y1]; omega
  · rw [y1]; omega
  · rw [y1]; omega
  · rw [y1]; omega
  · rw [y1]; omega
  · intro i hi
    rw [y1] at hi
    rw [y2, y3, y4]
    have := w10 i (by omega)
    omega
theorem rok_ag {Y V : Nat → Nat → Int} (A : AgR Y V) (h : rok V) : rok Y := rok_congr h (A _ (by omega) (by omega)) (A _ (by omega) (by omega)) (A _ (by omega) (by omega)) (A _ (by omega) (by omega)) (A _ (by omega) (by omega))
theorem minute {o : Nat} (ho : pm_isL o) {T : Int} {Z : Nat → Nat → Int} (H : lr o T Z) (hon : Z 190 29 = -1) (T0 : 0 ≤ T) (T1 : T ≤ 900000) (L : Nat) (W : Nat → Nat) : ∃ V, lr o (T + 1) V ∧ V 190 29 = -1 ∧ (∀ i : Nat, (i : Int) < Z 190 22 → V 191 (1 + i) = 1 ∨ V 191 (1 + i) = Z 191 (1 + i)) ∧ (∀ Y, AgC o Y Z → ∃ Y', pm_D (28, 0, [.ref o, .null], [], pm_hp L Y W) = some (none, pm_hp L Y' W) ∧ AgC o Y' V ∧ FrC o Y Y') ∧ (∀ Y, AgR Y Z → ∃ Y', pm_D (157, 0, [.ref 190, .null, .null, .null], [], pm_hp L Y W) = some (none, pm_hp L Y' W) ∧ AgR Y' V ∧ FrR Y Y') := by
  have hx : o = 46 ∨ o = 118 := ho
  have hRZ : rok Z := rok_of_lr H (by rw [hon]; decide)
  obtain ⟨Zc, ec, sc⟩ := c_start_lr ho H T1 (fun _ _ _ => rfl : AgC o Z Z) L W
  obtain ⟨Zr, er, sr⟩ := r_start L Z W hRZ
  obtain ⟨⟨a1, a2, a3, a4, a5, a6, a7, a8, a9, a10, a11⟩, ⟨⟨w1, w2, w3, w4, w5, w6⟩, ⟨w7, w8, w9⟩, w10⟩, ⟨⟨f1, f2, f3⟩, f4⟩, hms, hun, hco, hsh, htk⟩ := id H
  have hF : ∀ i : Nat, i < (Z 190 22).toNat → 0 ≤ Z 205 i ∧ Z 205 i < 8 ∧ 0 ≤ Z 206 i ∧ Z 206 i < 8 := fun i hi => by
    obtain ⟨⟨⟨s1, s2, s3, s4, s5, s6, s7⟩, -⟩, -⟩ := hms i (by omega)
    omega
  have hna : ∀ i : Nat, (i : Int) < Z 190 22 → ¬ arr Z i := fun i hi q => by
    obtain ⟨⟨⟨s1, s2, s3, s4, s5, s6, s7⟩, ⟨s8, s9, s10⟩, s11, s12, s13, s14, s15, s16, s17, s18, s19⟩, ⟨d1, d2, d3, d4, d5, d6, d7, d8, d9⟩, ml, mp, mc, mo1, mo2⟩ := hms i hi
    have := ml (Z 206 i).toNat (by rw [s9]; split <;> omega) (by rw [s10]; split <;> omega)
    have h2 := mo2 (by rw [d1]; exact q.1)
    have h3 := q.2
    omega
  -- the state when the links begin
  obtain ⟨V0, hV0⟩ : ∃ V0 : Nat → Nat → Int, ∀ a, V0 a = if o ≤ a ∧ a < o + 72 then Zc a else Zr a := ⟨fun a => if o ≤ a ∧ a < o + 72 then Zc a else Zr a, fun _ => rfl⟩
  have vC : ∀ a, o ≤ a → a < o + 72 → V0 a = Zc a := fun a h1 h2 => by rw [hV0, if_pos ⟨h1, h2⟩]
  have vR : ∀ a, 190 ≤ a → V0 a = Zr a := fun a h1 => by rw [hV0, if_neg (by omega)]
  obtain ⟨c1, c2, c3, c4, c5, c6⟩ := id sc
  obtain ⟨r1, r2, r3, r4⟩ := id sr
  have vrow : ∀ a, 190 ≤ a → a ≠ 191 → a ≠ 210 → a ≠ 211 → V0 a = Z a := fun a h1 h2 h3 h4 => by rw [vR a h1, r1 a h2 h3 h4]
  have crow : ∀ a, o < a → a < o + 72 → ¬ (o + 11 ≤ a ∧ a ≤ o + 14) → V0 a = Z a := fun a h1 h2 h3 => by rw [vC a (by omega) h2, c1 a (by omega) h3]
  have v190 : V0 190 = Z 190 := vrow 190 (by omega) (by omega) (by omega) (by omega)
  have v5 : V0 205 = Z 205 := vrow 205 (by omega) (by omega) (by omega) (by omega)
  have v6 : V0 206 = Z 206 := vrow 206 (by omega) (by omega) (by omega) (by omega)
  have v7 : V0 207 = Z 207 := vrow 207 (by omega) (by omega) (by omega) (by omega)
  have v8 : V0 208 = Z 208 := vrow 208 (by omega) (by omega) (by omega) (by omega)
  have v191 : ∀ q, ¬ (303 ≤ q ∧ q < 311) → V0 191 q = Z 191 q := fun q hq => by rw [vR 191 (by omega), r2, if_neg (by omega)]
  have vo : ∀ q, q ≠ 3 → q ≠ 11 → V0 o q = Z o q := fun q h1 h2 => by rw [vC o (by omega) (by omega), c2, if_neg h1, if_neg h2]
  have vo3 : V0 o 3 = Z o 3 + 1 := by rw [vC o (by omega) (by omega), c2, if_pos rfl]
  have vo11 : V0 o 11 = 1 := by rw [vC o (by omega) (by omega), c2, if_neg (by omega), if_pos rfl]
  have hpk : ∀ u : Int, md_pick V0 u (Z 190 22).toNat = md_pick Z u (Z 190 22).toNat := fun u => md_pick_congr' u (fun q _ _ => v191 q (by omega)) (fun q _ _ => v191 q (by omega)) v5 v6 v7 _ (by omega) hF
  have hcp : ∀ u : Int, cm_pick o Z u (Z o 4).toNat = md_pick Z u (Z 190 22).toNat := fun u => by
    rw [a7]
    exact cm_pick_eq (n := (Z 190 22).toNat) (fun i hi => hms i (by omega)) u _ (Nat.le_refl _)
  have hrp : ∀ u : Int, rk_pick Z u (Z 190 22).toNat = md_pick Z u (Z 190 22).toNat := fun u => rk_pick_eq hon u _
  have S : mst o T V0 := by
    refine ⟨⟨?_, ?_, ?_, ?_, ?_, ?_, ?_, ?_, ?_, ?_, T0, T1⟩, ?_, ?_, ?_, ?_⟩
    · rw [vo 2 (by omega) (by omega), v190]; exact a1
    · rw [v190]; exact a2
    · rw [v190]; exact a3
    · rw [vo3, v191 0 (by omega), a4]
    · rw [v191 0 (by omega)]; exact a5
    · rw [v191 0 (by omega)]; exact a6
    · rw [vo 4 (by omega) (by omega), v190]; exact a7
    · rw [v190]; exact a8
    · rw [v190]; exact a9
    · rw [v190]; exact hon
    · exact lr_w_congr H.2.1 (crow _ (by omega) (by omega) (by omega)) (crow _ (by omega) (by omega) (by omega)) (crow _ (by omega) (by omega) (by omega)) (crow _ (by omega) (by omega) (by omega)) (by rw [v190]) (by rw [v190]) (by rw [v190]) (vrow _ (by omega) (by omega) (by omega) (by omega)) (vrow _ (by omega) (by omega) (by omega) (by omega)) (vrow _ (by omega) (by omega) (by omega) (by omega))
    · exact lr_f_congr H.2.2.1 (crow _ (by omega) (by omega) (by omega)) (crow _ (by omega) (by omega) (by omega)) (crow _ (by omega) (by omega) (by omega)) (crow _ (by omega) (by omega) (by omega)) (by rw [v190]) (vrow _ (by omega) (by omega) (by omega) (by omega)) (vrow _ (by omega) (by omega) (by omega) (by omega)) (vrow _ (by omega) (by omega) (by omega) (by omega))
    · intro l hl
      rw [vC (o + 12) (by omega) (by omega), c4, if_pos hl, v190, v191 0 (by omega), vrow 193 (by omega) (by omega) (by omega) (by omega), vrow 194 (by omega) (by omega) (by omega) (by omega), vrow 195 (by omega) (by omega) (by omega) (by omega), w1, w2, w7, a4]
      exact md_bl_congr _ _ _ (fun j h1 h2 => by
        have := w10 j (by omega)
        exact ⟨this.1, this.2.1, this.2.2.1⟩)
    · intro t ht
      rw [v190] at ht ⊢
      rw [hpk, vC (o + 13) (by omega) (by omega), vC (o + 14) (by omega) (by omega), c5, c6, if_pos (by omega), if_pos (by omega), hcp, vR 210 (by omega), vR 211 (by omega), r3, r4, if_pos ht, hrp]
      refine ⟨⟨rfl, rfl⟩, rfl, fun q => ?_⟩
      rw [if_pos ⟨ht, q⟩]
  have M0 : mid o 0 T V0 V0 := by
    refine ⟨⟨fun _ _ => rfl, ⟨fun _ _ => rfl, by rw [vo11]; omega, by rw [vo11]; omega⟩, fun _ _ => rfl, fun _ _ _ _ => rfl⟩, fun i hi => ?_, ?_, fun l k hl hk => ?_, fun t ht ht' => ?_, fun _ _ _ _ _ => rfl⟩
    · rw [v190] at hi
      have hlm : lm (o + 9 + 6 + 5 * i) T V0 i := lm_congr (hms i hi) (crow _ (by omega) (by omega) (by omega)) (crow _ (by omega) (by omega) (by omega)) (crow _ (by omega) (by omega) (by omega)) (crow _ (by omega) (by omega) (by omega)) (crow _ (by omega) (by omega) (by omega)) (by rw [v190]) a3 (by rw [v5]) (by rw [v6]) (by rw [v7]) (by rw [v8]) (fun q hq => v191 q (by unfold s191 at hq; omega))
      obtain ⟨hs, ⟨d1, d2, d3, d4, d5, d6, d7, d8, d9⟩, h3, h4, h5, ho1, ho2⟩ := hlm
      have hn : ¬ arr V0 i := fun q => hna i hi ((arr_congr (v191 _ (by omega)) v5 v6 (fun q _ _ => v191 q (by omega)) (by omega) ⟨(hF i (by omega)).1, (hF i (by omega)).2.1⟩ ⟨(hF i (by omega)).2.2.1, (hF i (by omega)).2.2.2⟩).mp q)
      refine ⟨hs, ⟨?_, ?_, ?_, ?_, ?_, ?_⟩, h3, h4, h5, ho1⟩
      · rw [if_neg (show ¬ (V0 191 (1 + i) = 0 ∧ V0 191 (31 + 8 * i + (V0 206 i).toNat) = V0 191 (31 + 8 * i + (V0 205 i).toNat)) from hn)]
        exact d1
      · omega
      · intro q
        exact d4 (by omega)
      · intro q1 q2
        exact absurd ⟨q1, q2⟩ hn
      · omega
      · exact ⟨d7, d8, by omega⟩
    · intro i h1 h2
      rw [v190] at h1
      have := hun i h1 h2
      refine ⟨by rw [v191 _ (by omega)]; exact this.1, by rw [v191 _ (by omega)]; exact this.2.1, fun t ht => ?_⟩
      rw [v191 _ (by omega), v191 _ (by omega), v191 _ (by omega)]
      exact this.2.2 t ht
    · rw [crow _ (by omega) (by omega) (by omega), v191 _ (by omega)]
      have := hco l k hl hk
      refine ⟨this.1, this.2.1, ?_⟩
      rw [if_neg (by omega)]
      omega
    · rw [v190] at ht'
      rw [vC (o + 11) (by omega) (by omega), c3, if_pos ht, vR 191 (by omega), r2, if_pos (by omega)]
      omega
  obtain ⟨V1, M1, HC, HR⟩ := links ho S L W (V0 190 0 - 1).toNat 0 V0 (by have := S.1; omega) M0
  have hR1 : rok V1 := rok_of_mid S M1
  obtain ⟨⟨mr, ⟨mo, mo1, mo2⟩, mq, mlen⟩, mm, mu, mc, ms, ml⟩ := id M1
  have x190 : V1 190 = Z 190 := (mr 190 (Or.inl rfl)).trans v190
  have x0 : V1 191 0 = Z 191 0 := (mq 0 (by omega)).trans (v191 0 (by omega))
  obtain ⟨V2, e2, se⟩ := r_end 0 .null .null L V1 W hR1 (by rw [x0]; exact a5) (by rw [x0]; omega)
  obtain ⟨g1, g2, g3, g4⟩ := id se
  rw [x190] at g3 g4
  have y190 : V2 190 = Z 190 := (g1 190 (by omega)).trans x190
  have z5 : V1 205 = Z 205 := (mr 205 (by unfold md_row; omega)).trans v5
  have z6 : V1 206 = Z 206 := (mr 206 (by unfold md_row; omega)).trans v6
  have z7 : V1 207 = Z 207 := (mr 207 (by unfold md_row; omega)).trans v7
  refine ⟨V2, ⟨?_, ?_, ?_, ?_, ?_, ?_, ?_, ?_⟩, by rw [y190]; exact hon, ?_, fun Y A => ?_, fun Y A => ?_⟩
  · unfold lr_a
    rw [y190, g1 o (by omega), g2, x0, mo 2 (by omega), mo 3 (by omega), mo 4 (by omega), vo3, vo 2 (by omega) (by omega), vo 4 (by omega) (by omega)]
    exact ⟨a1, a2, a3, by omega, by omega, by omega, a7, a8, a9, mo1, mo2⟩
  · have q : ∀ a, o + 1 ≤ a → a ≤ o + 8 → V2 a = Z a := fun a h1 h2 => by rw [g1 a (by omega), mr a (by unfold md_row; omega), crow a (by omega) (by omega) (by omega)]
    have p : ∀ a, 193 ≤ a → a < 199 → V2 a = Z a := fun a h1 h2 => by rw [g1 a (by omega), mr a (by unfold md_row; omega), vrow a (by omega) (by omega) (by omega) (by omega)]
    exact lr_w_congr H.2.1 (q _ (by omega) (by omega)) (q _ (by omega) (by omega)) (q _ (by omega) (by omega)) (q _ (by omega) (by omega)) (by rw [y190]) (by rw [y190]) (by rw [y190]) (p _ (by omega) (by omega)) (p _ (by omega) (by omega)) (p _ (by omega) (by omega))
  · have q : ∀ a, o + 1 ≤ a → a ≤ o + 8 → V2 a = Z a := fun a h1 h2 => by rw [g1 a (by omega), mr a (by unfold md_row; omega), crow a (by omega) (by omega) (by omega)]
    have p : ∀ a, 193 ≤ a → a < 199 → V2 a = Z a := fun a h1 h2 => by rw [g1 a (by omega), mr a (by unfold md_row; omega), vrow a (by omega) (by omega) (by omega) (by omega)]
    exact lr_f_congr H.2.2.1 (q _ (by omega) (by omega)) (q _ (by omega) (by omega)) (q _ (by omega) (by omega)) (q _ (by omega) (by omega)) (by rw [y190]) (p _ (by omega) (by omega)) (p _ (by omega) (by omega)) (p _ (by omega) (by omega))
  · intro i hi
    rw [y190] at hi
    obtain ⟨hs, ⟨d1, d2, d3, d4, d5, d6, d7, d8⟩, hL, hp, hc, hoo⟩ := mm i (by rw [v190]; exact hi)
    obtain ⟨⟨p1, p2, p3, p4, p5, p6, p7⟩, ⟨p8, p9, p10⟩, q1, q2, q3, q4, q5, q6, q7, q8, q9⟩ := id hs
    rw [x190] at p4 p6
    have hb3 : 0 ≤ V1 (o + 9 + 6 + 5 * i) 3 := by rw [p9]; split <;> omega
    have hb4 : V1 (o + 9 + 6 + 5 * i) 4 < 8 := by rw [p10]; split <;> omega
    have k0 := g1 (o + 9 + 6 + 5 * i) (by omega)
    have k1 := g1 (o + 9 + 6 + 5 * i + 1) (by omega)
    have k2 := g1 (o + 9 + 6 + 5 * i + 2) (by omega)
    have k3 := g1 (o + 9 + 6 + 5 * i + 3) (by omega)
    have k4 := g1 (o + 9 + 6 + 5 * i + 4) (by omega)
    have k5 := g1 205 (by omega)
    have k6 := g1 206 (by omega)
    have k7 := g1 207 (by omega)
    have k8 := g1 208 (by omega)
    have hlast := hL (V1 206 i).toNat (by rw [p9]; split <;> omega) (by rw [p10]; split <;> omega)
    have gi := g4 i hi
    refine ⟨?_, ?_, ?_, ?_, ?_, ?_⟩
    · unfold lm_s at hs ⊢
      rw [k0, y190, k5, k6, k7, k8, g3 _ (by omega) (by omega) (by omega)]
      rw [x190] at hs
      exact ⟨hs.1, hs.2.1, q1, q2, q3, q4, q5, q6, q7, q8, by omega⟩
    · have o3 : V1 o 3 = Z 191 0 + 1 := by rw [mo 3 (by omega), vo3, a4]
      unfold lm_d
      rw [k0, gi.1, gi.2, g3 (21 + i) (by omega) (by omega) (by omega), x0]
      by_cases ha : arr V1 i
      · rw [if_pos ha, if_pos ha]
        rw [if_pos (show V1 191 (1 + i) = 0 ∧ V1 191 (31 + 8 * i + (V1 206 i).toNat) = V1 191 (31 + 8 * i + (V1 205 i).toNat) from ha)] at d1
        have := d4 ha.1 ha.2
        rw [this, d1]
        have d8' : (((V0 190 0 - 1).toNat : Nat) : Int) ≤ 7 := by rw [v190]; omega
        exact ⟨rfl, by omega, by omega, fun _ => o3, by omega, by omega, d6, d7, by omega⟩
      · rw [if_neg ha, if_neg ha]
        rw [if_neg (show ¬ (V1 191 (1 + i) = 0 ∧ V1 191 (31 + 8 * i + (V1 206 i).toNat) = V1 191 (31 + 8 * i + (V1 205 i).toNat)) from ha)] at d1
        have d8' : (((V0 190 0 - 1).toNat : Nat) : Int) ≤ 7 := by rw [v190]; omega
        exact ⟨d1, by omega, by omega, fun q => d3 (by omega), by omega, by omega, d6, d7, by omega⟩
    · intro t t1 t2
      rw [k0] at t1 t2
      rw [k0, k2, g3 _ (by omega) (by omega) (by omega)]
      exact hL t t1 t2
    · intro t t1 t2
      rw [k0] at t1 t2
      rw [k3, k4, g3 _ (by omega) (by omega) (by omega), g3 _ (by omega) (by omega) (by omega)]
      exact hp t t1 t2
    · intro t k t1 t2 t3
      rw [k0] at t1 t2
      rw [k2] at t3
      rw [k1, g3 _ (by omega) (by omega) (by omega)]
      exact hc t k t1 t2 t3
    · refine ⟨fun t t1 t2 => ?_, fun q => ?_⟩
      · rw [k0] at t1 t2
        rw [k5, k6, k2]
        exact hoo t t1 t2
      · rw [k0] at q ⊢
        rw [k6, k2]
        by_cases ha : arr V1 i
        · rw [if_pos (show V1 191 (1 + i) = 0 ∧ V1 191 (31 + 8 * i + (V1 206 i).toNat) = V1 191 (31 + 8 * i + (V1 205 i).toNat) from ha)] at d1
          omega
        · rw [if_neg (show ¬ (V1 191 (1 + i) = 0 ∧ V1 191 (31 + 8 * i + (V1 206 i).toNat) = V1 191 (31 + 8 * i + (V1 205 i).toNat)) from ha)] at d1
          have h2 : ¬ V1 191 (31 + 8 * i + (V1 206 i).toNat) = V1 191 (31 + 8 * i + (V1 205 i).toNat) := fun h => ha ⟨by omega, h⟩
          omega
  · intro i h1 h2
    rw [y190] at h1
    have := mu i (by rw [x190]; exact h1) h2
    refine ⟨?_, ?_, fun t ht => ⟨?_, ?_, ?_⟩⟩
    · rw [g3 _ (by omega) (by omega) (by omega)]; exact this.1
    · rw [g3 _ (by omega) (by omega) (by omega)]; exact this.2.1
    · rw [g3 _ (by omega) (by omega) (by omega)]; exact (this.2.2 t ht).1
    · rw [g3 _ (by omega) (by omega) (by omega)]; exact (this.2.2 t ht).2.1
    · rw [g3 _ (by omega) (by omega) (by omega)]; exact (this.2.2 t ht).2.2
  · intro l k hl hk
    rw [g1 _ (by omega), g3 _ (by omega) (by omega) (by omega)]
    have := mc l k hl hk
    refine ⟨this.1, this.2.1, ?_⟩
    have := this.2.2
    split at this <;> omega
  · intro t ht ht'
    rw [y190] at ht'
    rw [g1 _ (by omega), g3 _ (by omega) (by omega) (by omega)]
    exact ms t ht (by rw [x190]; exact ht')
  · intro h11 t ht
    rw [g1 o (by omega)] at h11
    rw [y190] at ht ⊢
    have hlen : ∀ q, 31 ≤ q → q < 111 → V1 191 q = Z 191 q := fun q h1 h2 => (mlen h11 q h1 h2).trans (v191 q (by omega))
    have hst : ∀ q, 1 ≤ q → q < 11 → V1 191 q = Z 191 q := fun q h1 h2 => (mq q (by omega)).trans (v191 q (by omega))
    have hn1 : ∀ i : Nat, (i : Int) < Z 190 22 → ¬ arr V1 i := fun i hi q => hna i hi ((arr_congr (hst _ (by omega) (by omega)) z5 z6 hlen (by omega) ⟨(hF i (by omega)).1, (hF i (by omega)).2.1⟩ ⟨(hF i (by omega)).2.2.1, (hF i (by omega)).2.2.2⟩).mp q)
    have hst2 : ∀ q, 1 ≤ q → q < 11 → V2 191 q = Z 191 q := fun q h1 h2 => by
      by_cases c : (q : Int) < 1 + Z 190 22
      · obtain ⟨i, rfl⟩ : ∃ i, q = 1 + i := ⟨q - 1, by omega⟩
        rw [(g4 i (by omega)).1, if_neg (hn1 i (by omega))]
        exact hst _ h1 h2
      · rw [g3 q (by omega) (by omega) (by omega)]
        exact hst q h1 h2
    have hlen2 : ∀ q, 31 ≤ q → q < 111 → V2 191 q = Z 191 q := fun q h1 h2 => by
      rw [g3 q (by omega) (by omega) (by omega)]
      exact hlen q h1 h2
    rw [md_pick_congr' (Z := Z) (Z' := V2) (t : Int) hst2 hlen2 ((g1 205 (by omega)).trans z5) ((g1 206 (by omega)).trans z6) ((g1 207 (by omega)).trans z7) _ (by omega) hF]
    rw [g1 _ (by omega), g1 _ (by omega), mr (o + 13) (by unfold md_row; omega), mr (o + 14) (by unfold md_row; omega)]
    have := (S.2.2.2.2 t (by rw [v190]; exact ht)).1
    rw [v190, hpk] at this
    exact this
  · intro i hi
    rw [(g4 i hi).1]
    by_cases ha : arr V1 i
    · rw [if_pos ha]
      exact Or.inl rfl
    · rw [if_neg ha]
      exact Or.inr ((mq _ (by omega)).trans (v191 _ (by omega)))
  · obtain ⟨Y1, e1, s1⟩ := c_start_lr ho H T1 A L W
    have A1 : AgC o Y1 V0 := fun a h1 h2 => by rw [St_ag (by omega) (by omega) A s1 sc a h1 h2, vC a h1 h2]
    obtain ⟨Y2, e2', A2, F2⟩ := HC Y1 A1
    refine ⟨Y2, e1.trans e2', fun a h1 h2 => by rw [A2 a h1 h2, g1 a (by omega)], FrC.trans (fun a ha => s1.1 a (by omega) (by omega)) F2⟩
  · have hRY := rok_ag A hRZ
    have yA0 := A 190 (by omega) (by omega)
    obtain ⟨Y1, e1, s1⟩ := r_start L Y W hRY
    have A1 : AgR Y1 V0 := fun a h1 h2 => by rw [Sr_ag A s1 sr a h1 h2, vR a h1]
    obtain ⟨Y2, x1, x2, x3, e2', A2, F2⟩ := HR Y1 .null .null A1
    have y2t : Y2 191 0 = Z 191 0 := by rw [A2 191 (by omega) (by omega)]; exact x0
    obtain ⟨Y3, e3, s3⟩ := r_end x1 x2 x3 L Y2 W (rok_ag A2 hR1) (by rw [y2t]; exact a5) (by rw [y2t]; omega)
    have F1 : FrR Y Y1 := ⟨s1.1, fun q hq => by rw [s1.2.1, if_neg (by rw [yA0]; omega)]⟩
    have n2 : Y2 190 22 = Z 190 22 := by rw [A2 190 (by omega) (by omega), x190]
    have F3 : FrR Y2 Y3 := ⟨fun a h1 _ _ => s3.1 a h1, fun q hq => s3.2.2.1 q (by omega) (by rw [n2]; omega) (by rw [n2]; omega)⟩
    refine ⟨Y3, (e1.trans e2').trans e3, Se_ag A2 (by rw [x190]; exact a8) (by rw [x190]; exact a9) s3 se, FrR.trans (FrR.trans F1 F2) F3⟩
