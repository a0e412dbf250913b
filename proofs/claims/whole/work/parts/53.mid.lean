/-! the two sides kept apart; the state in the middle of a minute -/
def AgC (o : Nat) (Y V : Nat → Nat → Int) : Prop := ∀ a, o ≤ a → a < o + 72 → Y a = V a
def AgR (Y V : Nat → Nat → Int) : Prop := ∀ a, 190 ≤ a → a < 212 → Y a = V a
def FrC (o : Nat) (Y Y' : Nat → Nat → Int) : Prop := ∀ a, ¬ (o ≤ a ∧ a < o + 72) → Y' a = Y a
def FrR (Y Y' : Nat → Nat → Int) : Prop := (∀ a, a ≠ 191 → a ≠ 210 → a ≠ 211 → Y' a = Y a) ∧ ∀ q, 2711 ≤ q → Y' 191 q = Y 191 q
section AG
variable {o b j : Nat} {Y Y' Y'' V : Nat → Nat → Int} {v : Int}
theorem AgC.up (h : AgC o Y V) : AgC o (pm_up Y b j v) (pm_up V b j v) := by
  intro a h1 h2
  have := h a h1 h2
  funext q
  unfold pm_up
  rw [this]
theorem AgC.skip (h : AgC o Y V) (hb : ¬ (o ≤ b ∧ b < o + 72)) : AgC o Y (pm_up V b j v) := by
  intro a h1 h2
  rw [pm_up_row (by omega)]
  exact h a h1 h2
theorem AgR.up (h : AgR Y V) : AgR (pm_up Y b j v) (pm_up V b j v) := by
  intro a h1 h2
  have := h a h1 h2
  funext q
  unfold pm_up
  rw [this]
theorem AgR.skip (h : AgR Y V) (hb : ¬ (190 ≤ b ∧ b < 212)) : AgR Y (pm_up V b j v) := by
  intro a h1 h2
  rw [pm_up_row (by omega)]
  exact h a h1 h2
theorem FrC.rfl : FrC o Y Y := fun _ _ => Eq.refl _
theorem FrC.up (h : FrC o Y Y') (hb : o ≤ b ∧ b < o + 72) : FrC o Y (pm_up Y' b j v) := by
  intro a ha
  rw [pm_up_row (by omega)]
  exact h a ha
theorem FrC.trans (h : FrC o Y Y') (h' : FrC o Y' Y'') : FrC o Y Y'' := fun a ha => (h' a ha).trans (h a ha)
theorem FrR.rfl : FrR Y Y := ⟨fun _ _ _ _ => Eq.refl _, fun _ _ => Eq.refl _⟩
theorem FrR.up (h : FrR Y Y') (hj : j < 2711) : FrR Y (pm_up Y' 191 j v) := by
  refine ⟨fun a h1 h2 h3 => ?_, fun q hq => ?_⟩
  · rw [pm_up_row h1]
    exact h.1 a h1 h2 h3
  · rw [pm_up_ne (by omega)]
    exact h.2 q hq
theorem FrR.trans (h : FrR Y Y') (h' : FrR Y' Y'') : FrR Y Y'' := ⟨fun a h1 h2 h3 => (h'.1 a h1 h2 h3).trans (h.1 a h1 h2 h3), fun q hq => (h'.2 q hq).trans (h.2 q hq)⟩
theorem pm_up_id (Z : Nat → Nat → Int) (a j : Nat) {v : Int} (h : v = Z a j) : pm_up Z a j v = Z := by
  funext b q
  unfold pm_up
  split
  · rename_i e
    rw [e.1, e.2, h]
  · rfl
theorem cw_ag {a l bf bh : Nat} {n s st h c e p er : Int} (A : AgC o Y V) (h1 : o ≤ a) (h2 : a + 5 ≤ o + 72) (H : cw o a l bf bh n s st h c e p er V) : cw o a l bf bh n s st h c e p er Y := by
  have hl := H.2.1
  unfold cw at H ⊢
  rw [A a (by omega) (by omega), A (a + 1) (by omega) (by omega), A (a + 2) (by omega) (by omega), A (a + 3) (by omega) (by omega), A (a + 4) (by omega) (by omega), A (o + 10 + 55 + l) (by omega) (by omega)]
  exact H
theorem cf_ag {l : Nat} {c f : Int} (A : AgC o Y V) (H : cf o l c f V) : cf o l c f Y := by
  unfold cf at H ⊢
  rw [A (o + 5) (by omega) (by omega), A (o + 5 + 1) (by omega) (by omega), A (o + 5 + 2) (by omega) (by omega), A (o + 5 + 3) (by omega) (by omega)]
  exact H
theorem rw_ag {m l bf bh : Nat} {n s st h c e p er : Int} (A : AgR Y V) (H : rw_ m l bf bh n s st h c e p er V) : rw_ m l bf bh n s st h c e p er Y := by
  unfold rw_ at H ⊢
  rw [A 191 (by omega) (by omega), A 205 (by omega) (by omega), A 206 (by omega) (by omega)]
  exact H
theorem rf_ag {l : Nat} {c f : Int} (A : AgR Y V) (H : rf l c f V) : rf l c f Y := by
  unfold rf at H ⊢
  rw [A 190 (by omega) (by omega), A 196 (by omega) (by omega), A 197 (by omega) (by omega), A 198 (by omega) (by omega)]
  exact H
end AG
/-- state and times of a message while the links are gone through -/
def lmd (o a l : Nat) (T : Int) (Z : Nat → Nat → Int) (i : Nat) : Prop :=
  (Z a 7 = (if Z 191 (1 + i) = 0 ∧ Z 191 (31 + 8 * i + (Z 206 i).toNat) = Z 191 (31 + 8 * i + (Z 205 i).toNat) then 1 else Z 191 (1 + i))) ∧ (0 ≤ Z 191 (1 + i) ∧ Z 191 (1 + i) ≤ 2) ∧ (Z 191 (1 + i) = 1 → Z a 9 = Z 191 (11 + i)) ∧ (Z 191 (1 + i) = 0 → Z 191 (31 + 8 * i + (Z 206 i).toNat) = Z 191 (31 + 8 * i + (Z 205 i).toNat) → Z a 9 = Z o 3) ∧ (0 ≤ Z a 9 ∧ Z a 9 ≤ T + 1) ∧ (Z a 10 = Z 191 (21 + i) ∧ 0 ≤ Z a 10 ∧ Z a 10 ≤ 7 * T + l)
def lmo (a : Nat) (Z : Nat → Nat → Int) (i : Nat) : Prop :=
  ∀ l : Nat, Z a 3 ≤ l → (l : Int) < Z a 4 → (if Z 205 i < Z 206 i then Z (a + 2) (l + 1) ≤ Z (a + 2) l else Z (a + 2) l ≤ Z (a + 2) (l + 1))
def lmm (o a l : Nat) (T : Int) (Z : Nat → Nat → Int) (i : Nat) : Prop := lm_s a T Z i ∧ lmd o a l T Z i ∧ lm_l a Z i ∧ lm_p a Z i ∧ lm_c a Z i ∧ lmo a Z i
/-- rows that stay -/
def md_row (o b : Nat) : Prop := b = 190 ∨ (193 ≤ b ∧ b < 199) ∨ (205 ≤ b ∧ b < 209) ∨ b = 210 ∨ b = 211 ∨ (o + 1 ≤ b ∧ b ≤ o + 8) ∨ (o + 12 ≤ b ∧ b ≤ o + 14)
def midA (o : Nat) (V0 V : Nat → Nat → Int) : Prop := (∀ b, md_row o b → V b = V0 b) ∧ ((∀ q, q ≠ 11 → V o q = V0 o q) ∧ 0 ≤ V o 11 ∧ V o 11 ≤ 1) ∧ (∀ q, q ≤ 10 → V 191 q = V0 191 q) ∧ (V o 11 = 1 → ∀ q, 31 ≤ q → q < 111 → V 191 q = V0 191 q)
def midC (o l : Nat) (T : Int) (V : Nat → Nat → Int) : Prop := ∀ l' k : Nat, l' < 7 → k < 4 → V (o + 10 + 55 + l') k = V 191 (271 + 4 * l' + k) ∧ 0 ≤ V 191 (271 + 4 * l' + k) ∧ V 191 (271 + 4 * l' + k) ≤ T + (if l' < l then 1 else 0)
def midL (o l : Nat) (V0 V : Nat → Nat → Int) : Prop := ∀ i t : Nat, (i : Int) < V0 190 22 → t < 8 → (l < t ∨ (t = l ∧ V0 (o + 14) t = (l : Int))) → V 191 (31 + 8 * i + t) = V0 191 (31 + 8 * i + t)
def mid (o l : Nat) (T : Int) (V0 V : Nat → Nat → Int) : Prop := midA o V0 V ∧ (∀ i : Nat, (i : Int) < V0 190 22 → lmm o (o + 9 + 6 + 5 * i) l T V i) ∧ lr_u V ∧ midC o l T V ∧ lr_s o V ∧ midL o l V0 V
/-- the state when the links begin -/
def mst (o : Nat) (T : Int) (V0 : Nat → Nat → Int) : Prop :=
  (V0 o 2 = V0 190 0 ∧ 3 ≤ V0 190 0 ∧ V0 190 0 ≤ 8 ∧ V0 o 3 = V0 191 0 + 1 ∧ 0 ≤ V0 191 0 ∧ V0 191 0 ≤ T ∧ V0 o 4 = V0 190 22 ∧ 0 ≤ V0 190 22 ∧ V0 190 22 ≤ 10 ∧ V0 190 29 = -1 ∧ 0 ≤ T ∧ T ≤ 900000) ∧ lr_w o V0 ∧ lr_f o V0 ∧
  (∀ l : Nat, l < 7 → V0 (o + 12) l = md_bl (V0 193) (V0 194) (V0 195) (V0 191 0) l (V0 190 5).toNat 0 (if V0 190 2 ≤ V0 191 0 % V0 190 1 then 1 else 0)) ∧
  (∀ t : Nat, (t : Int) < V0 190 0 → (V0 (o + 13) t = (md_pick V0 t (V0 190 22).toNat).1 ∧ V0 (o + 14) t = (md_pick V0 t (V0 190 22).toNat).2) ∧ V0 210 t = (if (md_pick V0 t (V0 190 22).toNat).1 < 0 then -1 else (md_pick V0 t (V0 190 22).toNat).1) ∧ (0 ≤ (md_pick V0 t (V0 190 22).toNat).1 → V0 211 t = (md_pick V0 t (V0 190 22).toNat).2))
theorem lmm_congr {o a i l l' : Nat} {T : Int} {Z Z' : Nat → Nat → Int} (hll : l ≤ l') (h : lmm o a l T Z i) (h0 : Z' a = Z a) (h1 : Z' (a + 1) = Z (a + 1)) (h2 : Z' (a + 2) = Z (a + 2)) (h3 : Z' (a + 3) = Z (a + 3)) (h4 : Z' (a + 4) = Z (a + 4)) (g0 : Z' 190 0 = Z 190 0) (g0' : Z 190 0 ≤ 8) (go : Z' o 3 = Z o 3) (r1 : Z' 205 i = Z 205 i) (r2 : Z' 206 i = Z 206 i) (r3 : Z' 207 i = Z 207 i) (r4 : Z' 208 i = Z 208 i) (g : ∀ q, s191 i q → Z' 191 q = Z 191 q) : lmm o a l' T Z' i := by
  obtain ⟨hs, hd, hl, hp, hc, ho⟩ := h
  obtain ⟨⟨p1, p2, p3, p4, p5, p6, p7⟩, ⟨p8, p9, p10⟩, p11⟩ := id hs
  have hb3 : 0 ≤ Z a 3 := by rw [p9]; split <;> omega
  have hb4 : Z a 4 < 8 := by rw [p10]; split <;> omega
  have e1 : Z' 191 (31 + 8 * i + (Z 205 i).toNat) = Z 191 (31 + 8 * i + (Z 205 i).toNat) := g _ (by unfold s191; omega)
  have e2 : Z' 191 (31 + 8 * i + (Z 206 i).toNat) = Z 191 (31 + 8 * i + (Z 206 i).toNat) := g _ (by unfold s191; omega)
  refine ⟨?_, ?_, ?_, ?_, ?_, ?_⟩
  · unfold lm_s at hs ⊢
    simp only [h0, g0, r1, r2, r3, r4, e1]
    exact hs
  · have q1 := g (1 + i) (Or.inl rfl)
    have q2 := g (11 + i) (Or.inr (Or.inl rfl))
    have q3 := g (21 + i) (Or.inr (Or.inr (Or.inl rfl)))
    unfold lmd at hd ⊢
    simp only [h0, q1, q2, q3, r1, r2, e1, e2, go]
    obtain ⟨x1, x2, x3, x4, x5, x6, x7, x8⟩ := hd
    exact ⟨x1, x2, x3, x4, x5, x6, x7, by omega⟩
  · intro t k1 k2
    rw [h0] at k1 k2
    have := hl t k1 k2
    rw [h2, h0, g _ (by unfold s191; omega)]
    exact this
  · intro t k1 k2
    rw [h0] at k1 k2
    have := hp t k1 k2
    rw [h3, h4, g (111 + 8 * i + t) (by unfold s191; omega), g (191 + 8 * i + t) (by unfold s191; omega)]
    exact this
  · intro t k k1 k2 k3
    rw [h0] at k1 k2
    rw [h2] at k3
    have hlt := hl t k1 k2
    obtain ⟨b1, b2, b3, b4, b5, b6, b7⟩ := p11
    have := hc t k k1 k2 k3
    rw [h1, g _ (by unfold s191; omega)]
    exact this
  · intro t k1 k2
    rw [h0] at k1 k2
    rw [r1, r2, h2]
    exact ho t k1 k2
