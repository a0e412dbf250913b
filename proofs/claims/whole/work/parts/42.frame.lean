/-! what stays when something else changes -/
section FR
variable {o i : Nat} {T : Int} {Z Z' : Nat → Nat → Int} {W W' : Nat → Nat}
theorem lr_a_congr (h : lr_a o T Z) (h2 : Z' o 2 = Z o 2) (h3 : Z' o 3 = Z o 3) (h4 : Z' o 4 = Z o 4) (h11 : Z' o 11 = Z o 11) (g0 : Z' 190 0 = Z 190 0) (g22 : Z' 190 22 = Z 190 22) (g : Z' 191 0 = Z 191 0) : lr_a o T Z' := by
  unfold lr_a at h ⊢
  rw [h2, h3, h4, h11, g0, g22, g]
  exact h
theorem lr_w_congr (h : lr_w o Z) (h0 : Z' (o + 1) = Z (o + 1)) (h1 : Z' (o + 1 + 1) = Z (o + 1 + 1)) (h2 : Z' (o + 1 + 2) = Z (o + 1 + 2)) (h3 : Z' (o + 1 + 3) = Z (o + 1 + 3)) (g1 : Z' 190 1 = Z 190 1) (g2 : Z' 190 2 = Z 190 2) (g5 : Z' 190 5 = Z 190 5) (r1 : Z' 193 = Z 193) (r2 : Z' 194 = Z 194) (r3 : Z' 195 = Z 195) : lr_w o Z' := by
  unfold lr_w at h ⊢
  simp only [h0, h1, h2, h3, g1, g2, g5, r1, r2, r3]
  exact h
theorem lr_f_congr (h : lr_f o Z) (h0 : Z' (o + 5) = Z (o + 5)) (h1 : Z' (o + 5 + 1) = Z (o + 5 + 1)) (h2 : Z' (o + 5 + 2) = Z (o + 5 + 2)) (h3 : Z' (o + 5 + 3) = Z (o + 5 + 3)) (g9 : Z' 190 9 = Z 190 9) (r1 : Z' 196 = Z 196) (r2 : Z' 197 = Z 197) (r3 : Z' 198 = Z 198) : lr_f o Z' := by
  unfold lr_f at h ⊢
  simp only [h0, h1, h2, h3, g9, r1, r2, r3]
  exact h
/-- the slots of the model's row that message i has -/
def s191 (i q : Nat) : Prop := q = 1 + i ∨ q = 11 + i ∨ q = 21 + i ∨ (31 + 8 * i ≤ q ∧ q < 39 + 8 * i) ∨ (111 + 8 * i ≤ q ∧ q < 119 + 8 * i) ∨ (191 + 8 * i ≤ q ∧ q < 199 + 8 * i) ∨ (311 + 240 * i ≤ q ∧ q < 551 + 240 * i)
theorem lm_congr {a : Nat} (h : lm a T Z i) (h0 : Z' a = Z a) (h1 : Z' (a + 1) = Z (a + 1)) (h2 : Z' (a + 2) = Z (a + 2)) (h3 : Z' (a + 3) = Z (a + 3)) (h4 : Z' (a + 4) = Z (a + 4)) (g0 : Z' 190 0 = Z 190 0) (g0' : Z 190 0 ≤ 8) (r1 : Z' 205 i = Z 205 i) (r2 : Z' 206 i = Z 206 i) (r3 : Z' 207 i = Z 207 i) (r4 : Z' 208 i = Z 208 i) (g : ∀ q, s191 i q → Z' 191 q = Z 191 q) : lm a T Z' i := by
  obtain ⟨hs, hd, hl, hp, hc, ho⟩ := h
  obtain ⟨⟨p1, p2, p3, p4, p5, p6, p7⟩, ⟨p8, p9, p10⟩, p11⟩ := id hs
  have hb3 : 0 ≤ Z a 3 := by rw [p9]; split <;> omega
  have hb4 : Z a 4 < 8 := by rw [p10]; split <;> omega
  have e1 : Z' 191 (31 + 8 * i + (Z 205 i).toNat) = Z 191 (31 + 8 * i + (Z 205 i).toNat) := g _ (by unfold s191; omega)
  refine ⟨?_, ?_, ?_, ?_, ?_, ?_⟩
  · unfold lm_s at hs ⊢
    simp only [h0, g0, r1, r2, r3, r4, e1]
    exact hs
  · have q1 := g (1 + i) (Or.inl rfl)
    have q2 := g (11 + i) (Or.inr (Or.inl rfl))
    have q3 := g (21 + i) (Or.inr (Or.inr (Or.inl rfl)))
    unfold lm_d at hd ⊢
    simp only [h0, q1, q2, q3]
    exact hd
  · intro t k1 k2
    rw [h0] at k1 k2
    have := hl t k1 k2
    rw [h2, h0, g _ (by unfold s191; omega)]
    exact this
  · intro t k1 k2
    rw [h0] at k1 k2
    have := hp t k1 k2
    rw [h3, h4, g (111 + 8 * i + t) (by unfold s191; omega), g (191 + 8 * i + t) (by unfold s191; omega)]
    exact this
  · intro t k k1 k2 k3
    rw [h0] at k1 k2
    rw [h2] at k3
    have hlt := hl t k1 k2
    obtain ⟨b1, b2, b3, b4, b5, b6, b7⟩ := p11
    have := hc t k k1 k2 k3
    rw [h1, g _ (by unfold s191; omega)]
    exact this
  · obtain ⟨o1, o2⟩ := ho
    refine ⟨fun t k1 k2 => ?_, fun k => ?_⟩
    · rw [h0] at k1 k2
      rw [r1, r2, h2]
      exact o1 t k1 k2
    · rw [h0] at k ⊢
      rw [r2, h2]
      exact o2 k
theorem lr_u_congr (h : lr_u Z) (g22 : Z' 190 22 = Z 190 22) (g : Z' 191 = Z 191) : lr_u Z' := by
  unfold lr_u at h ⊢
  rw [g22, g]
  exact h
theorem lr_c_congr (h : lr_c o T Z) (h0 : ∀ l, l < 7 → Z' (o + 10 + 55 + l) = Z (o + 10 + 55 + l)) (g : ∀ q, 271 ≤ q → q < 299 → Z' 191 q = Z 191 q) : lr_c o T Z' := by
  intro l k hl hk
  rw [h0 l hl, g _ (by omega) (by omega)]
  exact h l k hl hk
theorem lr_s_congr (h : lr_s o Z) (h0 : Z' (o + 11) = Z (o + 11)) (g0 : Z' 190 0 = Z 190 0) (g : ∀ q, 303 ≤ q → q < 311 → Z' 191 q = Z 191 q) : lr_s o Z' := by
  intro t ht ht'
  rw [g0] at ht'
  rw [h0, g _ (by omega) (by omega)]
  exact h t ht ht'
theorem md_pick_congr (g : Z' 191 = Z 191) (r1 : Z' 205 = Z 205) (r2 : Z' 206 = Z 206) (r3 : Z' 207 = Z 207) (t : Int) (k : Nat) : md_pick Z' t k = md_pick Z t k := by
  induction k with
  | zero => rfl
  | succ k ih =>
    unfold md_pick
    rw [ih]
    unfold md_lk md_can md_rk
    rw [g, r1, r2, r3]
theorem lr_t_congr (h : lr_t o Z) (h11 : Z' o 11 = Z o 11) (h13 : Z' (o + 13) = Z (o + 13)) (h14 : Z' (o + 14) = Z (o + 14)) (g0 : Z' 190 0 = Z 190 0) (g22 : Z' 190 22 = Z 190 22) (g : Z' 191 = Z 191) (r1 : Z' 205 = Z 205) (r2 : Z' 206 = Z 206) (r3 : Z' 207 = Z 207) : lr_t o Z' := by
  unfold lr_t at h ⊢
  simp only [h11, h13, h14, g0, g22, md_pick_congr g r1 r2 r3]
  exact h
theorem tx_congr (h : tx Z) (h1 : Z' 1 1 = Z 1 1) (h2 : Z' 2 = Z 2) (g : Z' 190 13 = Z 190 13) (r : Z' 199 = Z 199) : tx Z' := by
  unfold tx at h ⊢
  simp only [h1, h2, g, r]
  exact h
theorem bk_congr (h : bk Z W) (h3 : Z' 3 1 = Z 3 1) (h5 : ∀ b, 5 ≤ b → b < 45 → Z' b = Z b) (g : Z' 190 15 = Z 190 15) (r0 : Z' 200 = Z 200) (r1 : Z' 201 = Z 201) (r2 : Z' 202 = Z 202) (r3 : Z' 203 = Z 203) : bk Z' W := by
  obtain ⟨b1, b2, b3, b4, b5, b6, b7, b8⟩ := h
  have hsame : ∀ i w : Nat, (i : Int) < Z 190 15 → bk_same Z W i w → bk_same Z' W i w := by
    intro i w hi hs
    obtain ⟨j, hj, hW⟩ := b2 i (by omega)
    unfold bk_same at hs ⊢
    rw [h5 (W i) (by omega) (by omega), h5 (W i + 1) (by omega) (by omega), r0, r1, r2, r3]
    exact hs
  have hsame' : ∀ i w : Nat, (i : Int) < Z 190 15 → bk_same Z' W i w → bk_same Z W i w := by
    intro i w hi hs
    obtain ⟨j, hj, hW⟩ := b2 i (by omega)
    unfold bk_same at hs ⊢
    rw [h5 (W i) (by omega) (by omega), h5 (W i + 1) (by omega) (by omega), r0, r1, r2, r3] at hs
    exact hs
  refine ⟨by rw [h3, g]; exact b1, b2, b3, ?_, ?_, ?_, ?_, ?_⟩
  · intro w hw
    rw [g] at hw
    unfold bk_w
    rw [r0, r1, r2, r3]
    exact b4 w hw
  · intro w v hw hv hne
    rw [g] at hw hv
    unfold bk_ne
    rw [r0, r1, r2, r3]
    exact b5 w v hw hv hne
  · intro i hi
    rw [g] at hi
    obtain ⟨w, hw, hs⟩ := b6 i hi
    exact ⟨w, by rw [g]; exact hw, hsame i w hi hs⟩
  · intro w hw
    rw [g] at hw
    obtain ⟨i, hi, hs⟩ := b7 w hw
    exact ⟨i, by rw [g]; exact hi, hsame i w hi hs⟩
  · intro i j w hi hj hw h1 h2
    rw [g] at hi hj hw
    exact b8 i j w hi hj hw (hsame' i w hi h1) (hsame' j w hj h2)
/-- nothing of the line or of its model has changed -/
theorem lr_congr (h : lr o T Z) (hL : ∀ b, o ≤ b → b < o + 72 → Z' b = Z b) (g0 : Z' 190 0 = Z 190 0) (g1 : Z' 190 1 = Z 190 1) (g2 : Z' 190 2 = Z 190 2) (g5 : Z' 190 5 = Z 190 5) (g9 : Z' 190 9 = Z 190 9) (g22 : Z' 190 22 = Z 190 22) (g : Z' 191 = Z 191) (gr : ∀ b, 193 ≤ b → b < 199 → Z' b = Z b) (gs : ∀ b, 205 ≤ b → b < 209 → Z' b = Z b) : lr o T Z' := by
  obtain ⟨ha, hw, hf, hm, hu, hc, hs, ht⟩ := h
  have ho := hL o (by omega) (by omega)
  refine ⟨lr_a_congr ha (by rw [ho]) (by rw [ho]) (by rw [ho]) (by rw [ho]) g0 g22 (by rw [g]), lr_w_congr hw (hL _ (by omega) (by omega)) (hL _ (by omega) (by omega)) (hL _ (by omega) (by omega)) (hL _ (by omega) (by omega)) g1 g2 g5 (gr _ (by omega) (by omega)) (gr _ (by omega) (by omega)) (gr _ (by omega) (by omega)), lr_f_congr hf (hL _ (by omega) (by omega)) (hL _ (by omega) (by omega)) (hL _ (by omega) (by omega)) (hL _ (by omega) (by omega)) g9 (gr _ (by omega) (by omega)) (gr _ (by omega) (by omega)) (gr _ (by omega) (by omega)), ?_, lr_u_congr hu g22 g, lr_c_congr hc (fun l hl => hL _ (by omega) (by omega)) (fun q _ _ => by rw [g]), lr_s_congr hs (hL _ (by omega) (by omega)) g0 (fun q _ _ => by rw [g]), lr_t_congr ht (by rw [ho]) (hL _ (by omega) (by omega)) (hL _ (by omega) (by omega)) g0 g22 g (gs _ (by omega) (by omega)) (gs _ (by omega) (by omega)) (gs _ (by omega) (by omega))⟩
  intro i hi
  rw [g22] at hi
  obtain ⟨a1, a2, a3, a4, a5, a6, a7, a8, a9, a10⟩ := ha
  exact lm_congr (hm i hi) (hL _ (by omega) (by omega)) (hL _ (by omega) (by omega)) (hL _ (by omega) (by omega)) (hL _ (by omega) (by omega)) (hL _ (by omega) (by omega)) g0 a3 (by rw [gs 205 (by omega) (by omega)]) (by rw [gs 206 (by omega) (by omega)]) (by rw [gs 207 (by omega) (by omega)]) (by rw [gs 208 (by omega) (by omega)]) (fun q _ => by rw [g])
end FR
