/-! a link done: the state in the middle holds again -/
theorem mid_step0 {o l m a : Nat} {T : Int} {V0 V V1 : Nat → Nat → Int} (ho : pm_isL o) (S : mst o T V0) (M : mid o l T V0 V) (hl : (l : Int) < V0 190 0 - 1) (hm : (m : Int) < V0 190 22) (ea : a = o + 9 + 6 + 5 * m) (r d st' h' : Int) (r0 : 0 ≤ r) (r1 : r ≤ 1) (d0 : 0 ≤ d) (d1 : d ≤ 1) (t0 : 0 ≤ st') (t1 : st' ≤ 3) (g0 : 0 ≤ h') (g1 : h' ≤ 99)
    (R1 : ∀ b, b ≠ o + 11 → b ≠ a → b ≠ a + 3 → b ≠ a + 4 → b ≠ o + 10 + 55 + l → b ≠ 191 → V1 b = V b)
    (A1 : ∀ q, q ≠ 10 → V1 a q = V a q) (A2 : V1 a 10 = V a 10 + d) (B1 : V1 (a + 3) l = st') (B2 : ∀ q, q ≠ l → V1 (a + 3) q = V (a + 3) q) (C1 : V1 (a + 4) l = h') (C2 : ∀ q, q ≠ l → V1 (a + 4) q = V (a + 4) q)
    (D0 : V1 (o + 10 + 55 + l) 0 = V (o + 10 + 55 + l) 0 + r) (D1 : V1 (o + 10 + 55 + l) 1 = V (o + 10 + 55 + l) 1 + d) (D2 : V1 (o + 10 + 55 + l) 2 = V (o + 10 + 55 + l) 2) (D3 : V1 (o + 10 + 55 + l) 3 = V (o + 10 + 55 + l) 3)
    (E0 : V1 191 (271 + 4 * l) = V 191 (271 + 4 * l) + r) (E1 : V1 191 (271 + 4 * l + 1) = V 191 (271 + 4 * l + 1) + d) (E2 : V1 191 (21 + m) = V 191 (21 + m) + d) (E3 : V1 191 (111 + 8 * m + l) = st') (E4 : V1 191 (191 + 8 * m + l) = h')
    (E5 : ∀ q, q ≠ 271 + 4 * l → q ≠ 271 + 4 * l + 1 → q ≠ 21 + m → q ≠ 111 + 8 * m + l → q ≠ 191 + 8 * m + l → ¬ (303 ≤ q ∧ q < 311) → V1 191 q = V 191 q) (Sh : lr_s o V1) : mid o (l + 1) T V0 V1 := by
  have hx : o = 46 ∨ o = 118 := ho
  obtain ⟨⟨s1, s2, s3, s4, s5, s6, s7, s8, s9, s10, s11, s12⟩, -⟩ := id S
  obtain ⟨⟨mr, ⟨mo, mo1, mo2⟩, mq, mlen⟩, mm, mu, mc, ms, ml⟩ := id M
  have v190 : V 190 = V0 190 := mr 190 (Or.inl rfl)
  have l7 : l < 7 := by omega
  have m10 : m < 10 := by omega
  have w190 : V1 190 = V 190 := R1 190 (by omega) (by omega) (by omega) (by omega) (by omega) (by omega)
  have w5 : V1 205 = V 205 := R1 205 (by omega) (by omega) (by omega) (by omega) (by omega) (by omega)
  have w6 : V1 206 = V 206 := R1 206 (by omega) (by omega) (by omega) (by omega) (by omega) (by omega)
  have w7 : V1 207 = V 207 := R1 207 (by omega) (by omega) (by omega) (by omega) (by omega) (by omega)
  have w8 : V1 208 = V 208 := R1 208 (by omega) (by omega) (by omega) (by omega) (by omega) (by omega)
  have wo : V1 o = V o := R1 o (by omega) (by omega) (by omega) (by omega) (by omega) (by omega)
  refine ⟨⟨?_, ⟨?_, ?_, ?_⟩, ?_, ?_⟩, ?_, ?_, ?_, Sh, ?_⟩
  · intro b hb
    rw [R1 b (by unfold md_row at hb; omega) (by unfold md_row at hb; omega) (by unfold md_row at hb; omega) (by unfold md_row at hb; omega) (by unfold md_row at hb; omega) (by unfold md_row at hb; omega)]
    exact mr b hb
  · rw [wo]; exact mo
  · rw [wo]; exact mo1
  · rw [wo]; exact mo2
  · intro q hq
    rw [E5 q (by omega) (by omega) (by omega) (by omega) (by omega) (by omega)]
    exact mq q hq
  · rw [wo]
    intro h q h1 h2
    rw [E5 q (by omega) (by omega) (by omega) (by omega) (by omega) (by omega)]
    exact mlen h q h1 h2
  · intro i hi
    by_cases him : i = m
    · subst him
      obtain ⟨hs, hd', hL, hp, hc, hoo⟩ := mm i hi
      rw [← ea] at hs hd' hL hp hc hoo ⊢
      obtain ⟨⟨p1, p2, p3, p4, p5, p6, p7⟩, ⟨p8, p9, p10⟩, p11⟩ := id hs
      have hb3 : 0 ≤ V a 3 := by rw [p9]; split <;> omega
      have hb4 : V a 4 < 8 := by rw [p10]; rw [v190] at p4 p6; split <;> omega
      have e1 : V1 191 (31 + 8 * i + (V 205 i).toNat) = V 191 (31 + 8 * i + (V 205 i).toNat) := E5 _ (by omega) (by omega) (by omega) (by omega) (by omega) (by rw [v190] at p4; omega)
      have e2 : V1 191 (31 + 8 * i + (V 206 i).toNat) = V 191 (31 + 8 * i + (V 206 i).toNat) := E5 _ (by omega) (by omega) (by omega) (by omega) (by omega) (by rw [v190] at p6; omega)
      have x2 : V1 (a + 2) = V (a + 2) := R1 _ (by omega) (by omega) (by omega) (by omega) (by omega) (by omega)
      have x1 : V1 (a + 1) = V (a + 1) := R1 _ (by omega) (by omega) (by omega) (by omega) (by omega) (by omega)
      have a3 := A1 3 (by omega)
      have a4 := A1 4 (by omega)
      have a6 := A1 6 (by omega)
      refine ⟨?_, ?_, ?_, ?_, ?_, ?_⟩
      · unfold lm_s at hs ⊢
        rw [A1 0 (by omega), A1 1 (by omega), A1 2 (by omega), a3, a4, A1 5 (by omega), a6, A1 8 (by omega), w190, w5, w6, w7, w8, e1]
        exact hs
      · have q1 := E5 (1 + i) (by omega) (by omega) (by omega) (by omega) (by omega) (by omega)
        have q2 := E5 (11 + i) (by omega) (by omega) (by omega) (by omega) (by omega) (by omega)
        obtain ⟨y1, y2, y3, y4, y5, y6, y7, y8⟩ := hd'
        unfold lmd
        rw [A1 7 (by omega), A1 9 (by omega), w5, w6, e1, e2, q1, q2, wo, A2, E2]
        exact ⟨y1, y2, y3, y4, y5, by omega, by omega, by omega⟩
      · intro t k1 k2
        rw [a3] at k1
        rw [a4] at k2
        rw [x2, a6, E5 _ (by omega) (by omega) (by omega) (by omega) (by omega) (by omega)]
        exact hL t k1 k2
      · intro t k1 k2
        rw [a3] at k1
        rw [a4] at k2
        have := hp t k1 k2
        by_cases htl : t = l
        · subst htl
          rw [B1, C1, E3, E4]
          exact ⟨rfl, t0, t1, rfl, g0, g1⟩
        · rw [B2 t htl, C2 t htl, E5 (111 + 8 * i + t) (by omega) (by omega) (by omega) (by omega) (by omega) (by omega), E5 (191 + 8 * i + t) (by omega) (by omega) (by omega) (by omega) (by omega) (by omega)]
          exact this
      · intro t k k1 k2 k3
        rw [a3] at k1
        rw [a4] at k2
        rw [x2] at k3
        have := hc t k k1 k2 k3
        rw [x1, E5 _ (by omega) (by omega) (by omega) (by omega) (by omega) (by omega)]
        exact this
      · intro t k1 k2
        rw [a3] at k1
        rw [a4] at k2
        rw [w5, w6, x2]
        exact hoo t k1 k2
    · refine lmm_congr (Nat.le_succ l) (mm i hi) ?_ ?_ ?_ ?_ ?_ (by rw [w190]) (by rw [v190]; omega) (by rw [wo]) (by rw [w5]) (by rw [w6]) (by rw [w7]) (by rw [w8]) ?_
      · exact R1 _ (by omega) (by omega) (by omega) (by omega) (by omega) (by omega)
      · exact R1 _ (by omega) (by omega) (by omega) (by omega) (by omega) (by omega)
      · exact R1 _ (by omega) (by omega) (by omega) (by omega) (by omega) (by omega)
      · exact R1 _ (by omega) (by omega) (by omega) (by omega) (by omega) (by omega)
      · exact R1 _ (by omega) (by omega) (by omega) (by omega) (by omega) (by omega)
      · intro q hq
        unfold s191 at hq
        exact E5 q (by omega) (by omega) (by omega) (by omega) (by omega) (by omega)
  · intro i h1 h2
    rw [w190, v190] at h1
    have := mu i (by rw [v190]; exact h1) h2
    refine ⟨?_, ?_, fun t ht => ⟨?_, ?_, ?_⟩⟩
    · rw [E5 _ (by omega) (by omega) (by omega) (by omega) (by omega) (by omega)]; exact this.1
    · rw [E5 _ (by omega) (by omega) (by omega) (by omega) (by omega) (by omega)]; exact this.2.1
    · rw [E5 _ (by omega) (by omega) (by omega) (by omega) (by omega) (by omega)]; exact (this.2.2 t ht).1
    · rw [E5 _ (by omega) (by omega) (by omega) (by omega) (by omega) (by omega)]; exact (this.2.2 t ht).2.1
    · rw [E5 _ (by omega) (by omega) (by omega) (by omega) (by omega) (by omega)]; exact (this.2.2 t ht).2.2
  · intro l' k hl' hk
    have := mc l' k hl' hk
    by_cases hll : l' = l
    · subst hll
      rw [if_neg (by omega)] at this
      rw [if_pos (by omega)]
      rcases (show k = 0 ∨ k = 1 ∨ k = 2 ∨ k = 3 by omega) with rfl | rfl | rfl | rfl
      · rw [D0, show 271 + 4 * l' + 0 = 271 + 4 * l' from rfl, E0]
        rw [show 271 + 4 * l' + 0 = 271 + 4 * l' from rfl] at this
        omega
      · rw [D1, E1]
        omega
      · rw [D2, E5 _ (by omega) (by omega) (by omega) (by omega) (by omega) (by omega)]
        omega
      · rw [D3, E5 _ (by omega) (by omega) (by omega) (by omega) (by omega) (by omega)]
        omega
    · rw [R1 _ (by omega) (by omega) (by omega) (by omega) (by omega) (by omega), E5 _ (by omega) (by omega) (by omega) (by omega) (by omega) (by omega)]
      refine ⟨this.1, this.2.1, ?_⟩
      have := this.2.2
      split at this <;> split <;> omega
  · intro i t hi ht hc
    rw [E5 _ (by omega) (by omega) (by omega) (by omega) (by omega) (by omega)]
    exact ml i t hi ht (by omega)
theorem mid_step1 {o l m a bf bh : Nat} {T : Int} {V0 V V1 : Nat → Nat → Int} (ho : pm_isL o) (S : mst o T V0) (M : mid o l T V0 V) (hl : (l : Int) < V0 190 0 - 1) (hm : (m : Int) < V0 190 22) (ea : a = o + 9 + 6 + 5 * m) (n h : Int) (hst0 : V 191 (1 + m) = 0) (htk : V0 (o + 14) (l + 1) = (l : Int)) (hbb : (¬ V 205 m < V 206 m ∧ bf = l + 1 ∧ bh = l) ∨ (V 205 m < V 206 m ∧ bf = l ∧ bh = l + 1)) (hway : V a 3 ≤ l ∧ (l : Int) + 1 ≤ V a 4) (hn : V (a + 2) bh = n) (hn1 : n < V (a + 2) bf) (g0 : 0 ≤ h) (g1 : h ≤ 99)
    (R1 : ∀ b, b ≠ o → b ≠ a → b ≠ a + 1 → b ≠ a + 2 → b ≠ a + 3 → b ≠ o + 10 + 55 + l → b ≠ 191 → V1 b = V b)
    (O1 : ∀ q, q ≠ 11 → V1 o q = V o q) (O2 : V1 o 11 = 0)
    (A1 : ∀ q, q ≠ 7 → q ≠ 9 → V1 a q = V a q) (A2 : V1 a 7 = if V1 (a + 2) (V a 1).toNat < V a 6 then V a 7 else 1) (A3 : V1 a 9 = if V1 (a + 2) (V a 1).toNat < V a 6 then V a 9 else V o 3)
    (F1 : V1 (a + 1) (bh * 30 + n.toNat) = h) (F2 : ∀ q, q ≠ bh * 30 + n.toNat → V1 (a + 1) q = V (a + 1) q) (G1 : V1 (a + 2) bh = n + 1) (G2 : ∀ q, q ≠ bh → V1 (a + 2) q = V (a + 2) q)
    (B1 : V1 (a + 3) l = 0) (B2 : ∀ q, q ≠ l → V1 (a + 3) q = V (a + 3) q)
    (D0 : V1 (o + 10 + 55 + l) 0 = V (o + 10 + 55 + l) 0 + 1) (D1 : V1 (o + 10 + 55 + l) 1 = V (o + 10 + 55 + l) 1) (D2 : V1 (o + 10 + 55 + l) 2 = V (o + 10 + 55 + l) 2 + 1) (D3 : V1 (o + 10 + 55 + l) 3 = V (o + 10 + 55 + l) 3)
    (E0 : V1 191 (271 + 4 * l) = V 191 (271 + 4 * l) + 1) (E1 : V1 191 (271 + 4 * l + 2) = V 191 (271 + 4 * l + 2) + 1) (E2 : V1 191 (31 + 8 * m + bh) = n + 1) (E3 : V1 191 (111 + 8 * m + l) = 0) (E4 : V1 191 (311 + 30 * (8 * m + bh) + n.toNat) = h)
    (E5 : ∀ q, q ≠ 271 + 4 * l → q ≠ 271 + 4 * l + 2 → q ≠ 31 + 8 * m + bh → q ≠ 111 + 8 * m + l → q ≠ 311 + 30 * (8 * m + bh) + n.toNat → V1 191 q = V 191 q) : mid o (l + 1) T V0 V1 := by
  have hx : o = 46 ∨ o = 118 := ho
  obtain ⟨⟨s1, s2, s3, s4, s5, s6, s7, s8, s9, s10, s11, s12⟩, -⟩ := id S
  obtain ⟨⟨mr, ⟨mo, mo1, mo2⟩, mq, mlen⟩, mm, mu, mc, ms, ml⟩ := id M
  have v190 : V 190 = V0 190 := mr 190 (Or.inl rfl)
  have l7 : l < 7 := by omega
  have m10 : m < 10 := by omega
  have w190 : V1 190 = V 190 := R1 190 (by omega) (by omega) (by omega) (by omega) (by omega) (by omega) (by omega)
  have w5 : V1 205 = V 205 := R1 205 (by omega) (by omega) (by omega) (by omega) (by omega) (by omega) (by omega)
  have w6 : V1 206 = V 206 := R1 206 (by omega) (by omega) (by omega) (by omega) (by omega) (by omega) (by omega)
  have w7 : V1 207 = V 207 := R1 207 (by omega) (by omega) (by omega) (by omega) (by omega) (by omega) (by omega)
  have w8 : V1 208 = V 208 := R1 208 (by omega) (by omega) (by omega) (by omega) (by omega) (by omega) (by omega)
  have b8 : bh < 8 := by omega
  obtain ⟨hs, hd', hL, hp, hc, hoo⟩ := mm m hm
  rw [← ea] at hs hd' hL hp hc hoo
  obtain ⟨⟨p1, p2, p3, p4, p5, p6, p7⟩, ⟨p8, p9, p10⟩, z1, z2, z3, z4, z5, z6, z7⟩ := id hs
  rw [v190] at p4 p6
  have hb3 : 0 ≤ V a 3 := by rw [p9]; split <;> omega
  have hb4 : V a 4 < 8 := by rw [p10]; split <;> omega
  have hbf : V a 3 ≤ bf ∧ (bf : Int) ≤ V a 4 := by omega
  have hbh : V a 3 ≤ bh ∧ (bh : Int) ≤ V a 4 := by omega
  have hLf := hL bf hbf.1 hbf.2
  have hLh := hL bh hbh.1 hbh.2
  have hne1 : (V 205 m).toNat ≠ bh := by
    rcases hbb with ⟨u, q1, q2⟩ | ⟨u, q1, q2⟩
    · rw [if_neg u] at p10; omega
    · rw [if_pos u] at p9; omega
  have hn30 : 0 ≤ n ∧ n < 30 := by omega
  refine ⟨⟨?_, ⟨?_, ?_, ?_⟩, ?_, ?_⟩, ?_, ?_, ?_, ?_, ?_⟩
  · intro b hb
    rw [R1 b (by unfold md_row at hb; omega) (by unfold md_row at hb; omega) (by unfold md_row at hb; omega) (by unfold md_row at hb; omega) (by unfold md_row at hb; omega) (by unfold md_row at hb; omega) (by unfold md_row at hb; omega)]
    exact mr b hb
  · intro q hq
    rw [O1 q hq]
    exact mo q hq
  · rw [O2]; omega
  · rw [O2]; omega
  · intro q hq
    rw [E5 q (by omega) (by omega) (by omega) (by omega) (by omega)]
    exact mq q hq
  · rw [O2]
    intro h
    omega
  · intro i hi
    by_cases him : i = m
    · subst him
      rw [← ea]
      have e1 : V1 191 (31 + 8 * i + (V 205 i).toNat) = V 191 (31 + 8 * i + (V 205 i).toNat) := E5 _ (by omega) (by omega) (by omega) (by omega) (by omega)
      have a3 := A1 3 (by omega) (by omega)
      have a4 := A1 4 (by omega) (by omega)
      have a6 := A1 6 (by omega) (by omega)
      have x4 : V1 (a + 4) = V (a + 4) := R1 _ (by omega) (by omega) (by omega) (by omega) (by omega) (by omega) (by omega)
      have nl : ∀ t : Nat, V a 3 ≤ t → (t : Int) ≤ V a 4 → V1 (a + 2) t = V1 191 (31 + 8 * i + t) ∧ 0 ≤ V1 (a + 2) t ∧ V1 (a + 2) t ≤ V a 6 := by
        intro t k1 k2
        by_cases ht : t = bh
        · subst ht
          rw [G1, E2]
          omega
        · rw [G2 t ht, E5 _ (by omega) (by omega) (by omega) (by omega) (by omega)]
          exact hL t k1 k2
      refine ⟨?_, ?_, ?_, ?_, ?_, ?_⟩
      · unfold lm_s at hs ⊢
        rw [A1 0 (by omega) (by omega), A1 1 (by omega) (by omega), A1 2 (by omega) (by omega), a3, a4, A1 5 (by omega) (by omega), a6, A1 8 (by omega) (by omega), w190, w5, w6, w7, w8, e1]
        exact hs
      · have q1 := E5 (1 + i) (by omega) (by omega) (by omega) (by omega) (by omega)
        have q2 := E5 (11 + i) (by omega) (by omega) (by omega) (by omega) (by omega)
        have q3 := E5 (21 + i) (by omega) (by omega) (by omega) (by omega) (by omega)
        obtain ⟨y1, y2, y3, y4, y5, y6, y7, y8⟩ := hd'
        have hlast := nl (V 206 i).toNat (by rw [p9]; split <;> omega) (by rw [p10]; split <;> omega)
        have holast := hL (V 206 i).toNat (by rw [p9]; split <;> omega) (by rw [p10]; split <;> omega)
        have hmono : V (a + 2) (V 206 i).toNat ≤ V1 (a + 2) (V 206 i).toNat := by
          by_cases ht : (V 206 i).toNat = bh
          · rw [ht, G1]; omega
          · rw [G2 _ ht]; omega
        have o3 := O1 3 (by omega)
        have o3' := mo 3 (by omega)
        have tm : V 191 0 = V0 191 0 := mq 0 (by omega)
        unfold lmd
        rw [A2, A3, A1 10 (by omega) (by omega), w5, w6, e1, q1, q2, q3, o3, hst0, p2, ← hlast.1, ← z4]
        rw [hst0, ← holast.1, ← z4] at y1
        by_cases hw : V1 (a + 2) (V 206 i).toNat < V a 6
        · have : ¬ V (a + 2) (V 206 i).toNat = V a 6 := by omega
          rw [if_neg (fun q => this q.2)] at y1
          have hnw : ¬ V1 (a + 2) (V 206 i).toNat = V a 6 := by omega
          rw [if_pos hw, if_pos hw, if_neg (fun q => hnw q.2)]
          exact ⟨y1, by omega, fun q => by omega, fun _ q => absurd q hnw, y5, y6, y7, by omega⟩
        · have hw' : V1 (a + 2) (V 206 i).toNat = V a 6 := by omega
          rw [if_neg hw, if_neg hw, if_pos ⟨rfl, hw'⟩]
          exact ⟨rfl, by omega, fun q => by omega, fun _ _ => rfl, by omega, y6, y7, by omega⟩
      · intro t k1 k2
        rw [a3] at k1
        rw [a4] at k2
        rw [a6]
        exact nl t k1 k2
      · intro t k1 k2
        rw [a3] at k1
        rw [a4] at k2
        have := hp t k1 k2
        rw [x4, E5 (191 + 8 * i + t) (by omega) (by omega) (by omega) (by omega) (by omega)]
        by_cases htl : t = l
        · subst htl
          rw [B1, E3]
          exact ⟨rfl, by omega, by omega, this.2.2.2⟩
        · rw [B2 t htl, E5 (111 + 8 * i + t) (by omega) (by omega) (by omega) (by omega) (by omega)]
          exact this
      · intro t k k1 k2 k3
        rw [a3] at k1
        rw [a4] at k2
        have hk6 := nl t k1 k2
        by_cases ht : t = bh
        · subst ht
          by_cases hk : k = n.toNat
          · subst hk
            rw [F1, E4]
            exact ⟨rfl, g0, g1⟩
          · rw [G1] at k3
            have := hc t k k1 k2 (by omega)
            rw [F2 _ (by omega), E5 _ (by omega) (by omega) (by omega) (by omega) (by omega)]
            exact this
        · rw [G2 t ht] at k3
          have := hc t k k1 k2 k3
          have := hL t k1 k2
          rw [F2 _ (by omega), E5 _ (by omega) (by omega) (by omega) (by omega) (by omega)]
          assumption
      · intro t k1 k2
        rw [a3] at k1
        rw [a4] at k2
        have := hoo t k1 k2
        rw [w5, w6]
        rcases hbb with ⟨u, q1, q2⟩ | ⟨u, q1, q2⟩
        · rw [if_neg u] at this ⊢
          by_cases h1 : t = bh
          · subst h1
            rw [G1, G2 _ (by omega)]
            rw [q1, ← q2] at hn1
            omega
          · by_cases h2 : t + 1 = bh
            · rw [G2 _ h1, h2, G1]
              rw [h2] at this
              omega
            · rw [G2 _ h1, G2 _ h2]
              exact this
        · rw [if_pos u] at this ⊢
          by_cases h1 : t = bh
          · subst h1
            rw [G1, G2 _ (by omega)]
            omega
          · by_cases h2 : t + 1 = bh
            · rw [G2 _ h1, h2, G1]
              rw [q1, show l = t by omega] at hn1
              omega
            · rw [G2 _ h1, G2 _ h2]
              exact this
    · refine lmm_congr (Nat.le_succ l) (mm i hi) ?_ ?_ ?_ ?_ ?_ (by rw [w190]) (by rw [v190]; omega) (O1 3 (by omega)) (by rw [w5]) (by rw [w6]) (by rw [w7]) (by rw [w8]) ?_
      · exact R1 _ (by omega) (by omega) (by omega) (by omega) (by omega) (by omega) (by omega)
      · exact R1 _ (by omega) (by omega) (by omega) (by omega) (by omega) (by omega) (by omega)
      · exact R1 _ (by omega) (by omega) (by omega) (by omega) (by omega) (by omega) (by omega)
      · exact R1 _ (by omega) (by omega) (by omega) (by omega) (by omega) (by omega) (by omega)
      · exact R1 _ (by omega) (by omega) (by omega) (by omega) (by omega) (by omega) (by omega)
      · intro q hq
        unfold s191 at hq
        exact E5 q (by omega) (by omega) (by omega) (by omega) (by omega)
  · intro i h1 h2
    rw [w190, v190] at h1
    have := mu i (by rw [v190]; exact h1) h2
    refine ⟨?_, ?_, fun t ht => ⟨?_, ?_, ?_⟩⟩
    · rw [E5 _ (by omega) (by omega) (by omega) (by omega) (by omega)]; exact this.1
    · rw [E5 _ (by omega) (by omega) (by omega) (by omega) (by omega)]; exact this.2.1
    · rw [E5 _ (by omega) (by omega) (by omega) (by omega) (by omega)]; exact (this.2.2 t ht).1
    · rw [E5 _ (by omega) (by omega) (by omega) (by omega) (by omega)]; exact (this.2.2 t ht).2.1
    · rw [E5 _ (by omega) (by omega) (by omega) (by omega) (by omega)]; exact (this.2.2 t ht).2.2
  · intro l' k hl' hk
    have := mc l' k hl' hk
    by_cases hll : l' = l
    · subst hll
      rw [if_neg (by omega)] at this
      rw [if_pos (by omega)]
      rcases (show k = 0 ∨ k = 1 ∨ k = 2 ∨ k = 3 by omega) with rfl | rfl | rfl | rfl
      · rw [D0, show 271 + 4 * l' + 0 = 271 + 4 * l' from rfl, E0]
        rw [show 271 + 4 * l' + 0 = 271 + 4 * l' from rfl] at this
        omega
      · rw [D1, E5 _ (by omega) (by omega) (by omega) (by omega) (by omega)]
        omega
      · rw [D2, E1]
        omega
      · rw [D3, E5 _ (by omega) (by omega) (by omega) (by omega) (by omega)]
        omega
    · rw [R1 _ (by omega) (by omega) (by omega) (by omega) (by omega) (by omega) (by omega), E5 _ (by omega) (by omega) (by omega) (by omega) (by omega)]
      refine ⟨this.1, this.2.1, ?_⟩
      have := this.2.2
      split at this <;> split <;> omega
  · intro t ht ht'
    rw [w190] at ht'
    rw [R1 _ (by omega) (by omega) (by omega) (by omega) (by omega) (by omega) (by omega), E5 _ (by omega) (by omega) (by omega) (by omega) (by omega)]
    exact ms t ht ht'
  · intro i t hi ht hcond
    have htb : t ≠ bh := by
      rintro rfl
      rcases hcond with q | ⟨q1, q2⟩
      · omega
      · rw [q1] at q2
        omega
    rw [E5 _ (by omega) (by omega) (by omega) (by omega) (by omega)]
    exact ml i t hi ht (by omega)
