/-! the relation of class and model -/
def pm_isL (o : Nat) : Prop := o = 46 ∨ o = 118
theorem pm_kdL {o : Nat} (ho : pm_isL o) : pm_kd o = 2 ∧ pm_kd (o + 1) = 6 ∧ pm_kd (o + 5) = 1 ∧ pm_kd (o + 9) = 14 ∧ pm_ln (o + 9) = 10 ∧ pm_kd (o + 10) = 13 ∧ pm_ln (o + 10) = 7 ∧ pm_kd (o + 11) = 11 ∧ pm_ln (o + 11) = 8 ∧ pm_kd (o + 12) = 12 ∧ pm_ln (o + 12) = 7 ∧ pm_kd (o + 13) = 11 ∧ pm_ln (o + 13) = 8 ∧ pm_kd (o + 14) = 11 ∧ pm_ln (o + 14) = 8 := by
  rcases ho with rfl | rfl <;> decide +kernel
theorem pm_kdW {o : Nat} (ho : pm_isL o) : pm_kd (o + 1 + 1) = 11 ∧ pm_ln (o + 1 + 1) = 12 ∧ pm_kd (o + 1 + 2) = 11 ∧ pm_ln (o + 1 + 2) = 12 ∧ pm_kd (o + 1 + 3) = 11 ∧ pm_ln (o + 1 + 3) = 12 ∧ pm_kd (o + 5 + 1) = 11 ∧ pm_ln (o + 5 + 1) = 16 ∧ pm_kd (o + 5 + 2) = 11 ∧ pm_ln (o + 5 + 2) = 16 ∧ pm_kd (o + 5 + 3) = 11 ∧ pm_ln (o + 5 + 3) = 16 := by
  rcases ho with rfl | rfl <;> decide +kernel
theorem pm_kdM {o n : Nat} (ho : pm_isL o) (hn : n < 10) : pm_kd (o + 9 + 6 + 5 * n) = 4 ∧ pm_kd (o + 9 + 6 + 5 * n + 1) = 11 ∧ pm_ln (o + 9 + 6 + 5 * n + 1) = 240 ∧ pm_kd (o + 9 + 6 + 5 * n + 2) = 11 ∧ pm_ln (o + 9 + 6 + 5 * n + 2) = 8 ∧ pm_kd (o + 9 + 6 + 5 * n + 3) = 11 ∧ pm_ln (o + 9 + 6 + 5 * n + 3) = 7 ∧ pm_kd (o + 9 + 6 + 5 * n + 4) = 11 ∧ pm_ln (o + 9 + 6 + 5 * n + 4) = 7 := by
  rcases ho with rfl | rfl
  · exact (by decide +kernel : ∀ n, n < 10 → pm_kd (46 + 9 + 6 + 5 * n) = 4 ∧ pm_kd (46 + 9 + 6 + 5 * n + 1) = 11 ∧ pm_ln (46 + 9 + 6 + 5 * n + 1) = 240 ∧ pm_kd (46 + 9 + 6 + 5 * n + 2) = 11 ∧ pm_ln (46 + 9 + 6 + 5 * n + 2) = 8 ∧ pm_kd (46 + 9 + 6 + 5 * n + 3) = 11 ∧ pm_ln (46 + 9 + 6 + 5 * n + 3) = 7 ∧ pm_kd (46 + 9 + 6 + 5 * n + 4) = 11 ∧ pm_ln (46 + 9 + 6 + 5 * n + 4) = 7) n hn
  · exact (by decide +kernel : ∀ n, n < 10 → pm_kd (118 + 9 + 6 + 5 * n) = 4 ∧ pm_kd (118 + 9 + 6 + 5 * n + 1) = 11 ∧ pm_ln (118 + 9 + 6 + 5 * n + 1) = 240 ∧ pm_kd (118 + 9 + 6 + 5 * n + 2) = 11 ∧ pm_ln (118 + 9 + 6 + 5 * n + 2) = 8 ∧ pm_kd (118 + 9 + 6 + 5 * n + 3) = 11 ∧ pm_ln (118 + 9 + 6 + 5 * n + 3) = 7 ∧ pm_kd (118 + 9 + 6 + 5 * n + 4) = 11 ∧ pm_ln (118 + 9 + 6 + 5 * n + 4) = 7) n hn
theorem pm_kdC {o n : Nat} (ho : pm_isL o) (hn : n < 7) : pm_kd (o + 10 + 55 + n) = 3 := by
  rcases ho with rfl | rfl
  · exact (by decide +kernel : ∀ n, n < 7 → pm_kd (46 + 10 + 55 + n) = 3) n hn
  · exact (by decide +kernel : ∀ n, n < 7 → pm_kd (118 + 10 + 55 + n) = 3) n hn
/-- of a message i of the model: may it use link l -/
def md_can (Z : Nat → Nat → Int) (i : Nat) (l : Int) : Bool :=
  decide (Z 191 (1 + i) = 0) && decide ((if Z 205 i < Z 206 i then Z 205 i else Z 206 i) ≤ l) && decide (l < (if Z 205 i < Z 206 i then Z 206 i else Z 205 i)) &&
  decide (Z 191 (31 + 8 * i + (if Z 205 i < Z 206 i then l + 1 else l).toNat) < Z 191 (31 + 8 * i + (if Z 205 i < Z 206 i then l else l + 1).toNat))
/-- the link that message i would have tower t take, or -6 -/
def md_lk (Z : Nat → Nat → Int) (i : Nat) (t : Int) : Int :=
  if md_can Z i (if Z 205 i < Z 206 i then t else t - 1) = true then (if Z 205 i < Z 206 i then t else t - 1)
  else if md_can Z i (if Z 205 i < Z 206 i then t - 1 else t) = true then (if Z 205 i < Z 206 i then t - 1 else t) else -6
def md_rk (Z : Nat → Nat → Int) (i : Nat) : Int := 2 * Z 207 i + (if Z 205 i < Z 206 i then 1 else 0)
/-- what tower t takes, of the first k messages: message and link -/
def md_pick (Z : Nat → Nat → Int) (t : Int) : Nat → Int × Int
  | 0 => (-6, -6)
  | k + 1 => if md_lk Z k t ≠ -6 ∧ ((md_pick Z t k).1 < 0 ∨ md_rk Z (md_pick Z t k).1.toNat < md_rk Z k) then ((k : Int), md_lk Z k t) else md_pick Z t k
/-- message i of the line: its object at address a -/
def lm_s (a : Nat) (T : Int) (Z : Nat → Nat → Int) (i : Nat) : Prop :=
  (Z a 0 = Z 205 i ∧ Z a 1 = Z 206 i ∧ 0 ≤ Z 205 i ∧ Z 205 i < Z 190 0 ∧ 0 ≤ Z 206 i ∧ Z 206 i < Z 190 0 ∧ Z 205 i ≠ Z 206 i) ∧
  (Z a 2 = (if Z 205 i < Z 206 i then 1 else 0) ∧ Z a 3 = (if Z 205 i < Z 206 i then Z 205 i else Z 206 i) ∧ Z a 4 = (if Z 205 i < Z 206 i then Z 206 i else Z 205 i)) ∧
  (Z a 5 = Z 207 i ∧ 0 ≤ Z 207 i ∧ Z 207 i ≤ 2 ∧ Z a 6 = Z 191 (31 + 8 * i + (Z 205 i).toNat) ∧ 1 ≤ Z a 6 ∧ Z a 6 ≤ 30 ∧ Z a 8 = Z 208 i ∧ 0 ≤ Z 208 i ∧ Z 208 i ≤ T)
def lm_d (a : Nat) (T : Int) (Z : Nat → Nat → Int) (i : Nat) : Prop :=
  Z a 7 = Z 191 (1 + i) ∧ 0 ≤ Z a 7 ∧ Z a 7 ≤ 2 ∧ (Z a 7 = 1 → Z a 9 = Z 191 (11 + i)) ∧ 0 ≤ Z a 9 ∧ Z a 9 ≤ T ∧ Z a 10 = Z 191 (21 + i) ∧ 0 ≤ Z a 10 ∧ Z a 10 ≤ 7 * T
def lm_l (a : Nat) (Z : Nat → Nat → Int) (i : Nat) : Prop :=
  ∀ t : Nat, Z a 3 ≤ t → (t : Int) ≤ Z a 4 → Z (a + 2) t = Z 191 (31 + 8 * i + t) ∧ 0 ≤ Z (a + 2) t ∧ Z (a + 2) t ≤ Z a 6
def lm_p (a : Nat) (Z : Nat → Nat → Int) (i : Nat) : Prop :=
  ∀ l : Nat, Z a 3 ≤ l → (l : Int) < Z a 4 → Z (a + 3) l = Z 191 (111 + 8 * i + l) ∧ 0 ≤ Z (a + 3) l ∧ Z (a + 3) l ≤ 3 ∧ Z (a + 4) l = Z 191 (191 + 8 * i + l) ∧ 0 ≤ Z (a + 4) l ∧ Z (a + 4) l ≤ 99
def lm_c (a : Nat) (Z : Nat → Nat → Int) (i : Nat) : Prop :=
  ∀ t k : Nat, Z a 3 ≤ t → (t : Int) ≤ Z a 4 → (k : Int) < Z (a + 2) t → Z (a + 1) (t * 30 + k) = Z 191 (311 + 30 * (8 * i + t) + k) ∧ 0 ≤ Z (a + 1) (t * 30 + k) ∧ Z (a + 1) (t * 30 + k) ≤ 99
/-- copies grow shorter along the way; under way: the last isn't whole -/
def lm_o (a : Nat) (Z : Nat → Nat → Int) (i : Nat) : Prop :=
  (∀ l : Nat, Z a 3 ≤ l → (l : Int) < Z a 4 → (if Z 205 i < Z 206 i then Z (a + 2) (l + 1) ≤ Z (a + 2) l else Z (a + 2) l ≤ Z (a + 2) (l + 1))) ∧
  (Z a 7 = 0 → Z (a + 2) (Z 206 i).toNat < Z a 6)
def lm (a : Nat) (T : Int) (Z : Nat → Nat → Int) (i : Nat) : Prop := lm_s a T Z i ∧ lm_d a T Z i ∧ lm_l a Z i ∧ lm_p a Z i ∧ lm_c a Z i ∧ lm_o a Z i
/-- the line at base o shows the model -/
def lr_a (o : Nat) (T : Int) (Z : Nat → Nat → Int) : Prop :=
  Z o 2 = Z 190 0 ∧ 3 ≤ Z 190 0 ∧ Z 190 0 ≤ 8 ∧ Z o 3 = Z 191 0 ∧ 0 ≤ Z 191 0 ∧ Z 191 0 ≤ T ∧ Z o 4 = Z 190 22 ∧ 0 ≤ Z 190 22 ∧ Z 190 22 ≤ 10 ∧ 0 ≤ Z o 11 ∧ Z o 11 ≤ 1
def lr_w (o : Nat) (Z : Nat → Nat → Int) : Prop :=
  (Z (o + 1) 0 = Z 190 1 ∧ Z (o + 1) 1 = Z 190 2 ∧ 1 ≤ Z 190 1 ∧ Z 190 1 ≤ 10000 ∧ 1 ≤ Z 190 2 ∧ Z 190 2 ≤ Z 190 1) ∧
  (Z (o + 1) 5 = Z 190 5 ∧ 0 ≤ Z 190 5 ∧ Z 190 5 ≤ 12) ∧
  ∀ i : Nat, (i : Int) < Z 190 5 → Z (o + 1 + 1) i = Z 193 i ∧ Z (o + 1 + 2) i = Z 194 i ∧ Z (o + 1 + 3) i = Z 195 i ∧ 0 ≤ Z 193 i ∧ Z 193 i < 7 ∧ 0 ≤ Z 194 i ∧ Z 194 i ≤ 100000 ∧ 0 ≤ Z 195 i ∧ Z 195 i ≤ 100000
def lr_f (o : Nat) (Z : Nat → Nat → Int) : Prop :=
  (Z (o + 5) 3 = Z 190 9 ∧ 0 ≤ Z 190 9 ∧ Z 190 9 ≤ 16) ∧
  ∀ i : Nat, (i : Int) < Z 190 9 → Z (o + 5 + 1) i = Z 196 i ∧ Z (o + 5 + 2) i = Z 197 i ∧ Z (o + 5 + 3) i = Z 198 i ∧ 0 ≤ Z 196 i ∧ Z 196 i < 7 ∧ 1 ≤ Z 197 i ∧ Z 197 i ≤ 10000 ∧ 1 ≤ Z 198 i ∧ Z 198 i ≤ 99
def lr_u (Z : Nat → Nat → Int) : Prop :=
  ∀ i : Nat, Z 190 22 ≤ i → i < 10 → Z 191 (1 + i) = 0 ∧ Z 191 (21 + i) = 0 ∧ ∀ t : Nat, t < 8 → Z 191 (31 + 8 * i + t) = 0 ∧ Z 191 (111 + 8 * i + t) = 0 ∧ Z 191 (191 + 8 * i + t) = 0
def lr_c (o : Nat) (T : Int) (Z : Nat → Nat → Int) : Prop :=
  ∀ l k : Nat, l < 7 → k < 4 → Z (o + 10 + 55 + l) k = Z 191 (271 + 4 * l + k) ∧ 0 ≤ Z 191 (271 + 4 * l + k) ∧ Z 191 (271 + 4 * l + k) ≤ T
def lr_s (o : Nat) (Z : Nat → Nat → Int) : Prop :=
  ∀ t : Nat, t < 8 → (t : Int) < Z 190 0 → Z (o + 11) t = Z 191 (303 + t) ∧ 0 ≤ Z 191 (303 + t) ∧ Z 191 (303 + t) ≤ 99
def lr_t (o : Nat) (Z : Nat → Nat → Int) : Prop :=
  Z o 11 = 1 → ∀ t : Nat, (t : Int) < Z 190 0 → Z (o + 13) t = (md_pick Z t (Z 190 22).toNat).1 ∧ Z (o + 14) t = (md_pick Z t (Z 190 22).toNat).2
def lr (o : Nat) (T : Int) (Z : Nat → Nat → Int) : Prop := lr_a o T Z ∧ lr_w o Z ∧ lr_f o Z ∧ (∀ i : Nat, (i : Int) < Z 190 22 → lm (o + 9 + 6 + 5 * i) T Z i) ∧ lr_u Z ∧ lr_c o T Z ∧ lr_s o Z ∧ lr_t o Z
/-- the text -/
def tx_code (c : Int) : Int := if 97 ≤ c ∧ c ≤ 122 then c - 96 else if c = 32 then 0 else -1
def tx (Z : Nat → Nat → Int) : Prop := Z 1 1 = Z 190 13 ∧ 0 ≤ Z 190 13 ∧ Z 190 13 ≤ 60 ∧ ∀ i : Nat, (i : Int) < Z 190 13 → 0 ≤ Z 199 i ∧ Z 199 i < 65536 ∧ Z 2 i = tx_code (Z 199 i)
/-- the code book: word i of the class is word w of the model -/
def bk_same (Z : Nat → Nat → Int) (W : Nat → Nat) (i w : Nat) : Prop :=
  Z (W i) 1 = Z 200 w ∧ Z (W i) 2 = Z 202 w ∧ Z (W i) 3 = Z 203 w ∧ ∀ k : Nat, (k : Int) < Z 200 w → Z (W i + 1) k = Z 201 (10 * w + k)
def bk_w (Z : Nat → Nat → Int) (w : Nat) : Prop :=
  1 ≤ Z 200 w ∧ Z 200 w ≤ 10 ∧ 30 ≤ Z 202 w ∧ Z 202 w ≤ 95 ∧ 30 ≤ Z 203 w ∧ Z 203 w ≤ 95 ∧ ∀ k : Nat, (k : Int) < Z 200 w → 1 ≤ Z 201 (10 * w + k) ∧ Z 201 (10 * w + k) ≤ 26
def bk_ne (Z : Nat → Nat → Int) (w v : Nat) : Prop :=
  ¬ (Z 202 w = Z 202 v ∧ Z 203 w = Z 203 v) ∧ ¬ (Z 200 w = Z 200 v ∧ ∀ k : Nat, (k : Int) < Z 200 w → Z 201 (10 * w + k) = Z 201 (10 * v + k))
def bk (Z : Nat → Nat → Int) (W : Nat → Nat) : Prop :=
  (Z 3 1 = Z 190 15 ∧ 0 ≤ Z 190 15 ∧ Z 190 15 ≤ 20) ∧
  (∀ i, i < 20 → ∃ j, j < 20 ∧ W i = 5 + 2 * j) ∧ (∀ i j, i < 20 → j < 20 → W i = W j → i = j) ∧
  (∀ w : Nat, (w : Int) < Z 190 15 → bk_w Z w) ∧ (∀ w v : Nat, (w : Int) < Z 190 15 → (v : Int) < Z 190 15 → w ≠ v → bk_ne Z w v) ∧
  (∀ i : Nat, (i : Int) < Z 190 15 → ∃ w : Nat, (w : Int) < Z 190 15 ∧ bk_same Z W i w) ∧ (∀ w : Nat, (w : Int) < Z 190 15 → ∃ i : Nat, (i : Int) < Z 190 15 ∧ bk_same Z W i w) ∧
  (∀ i j w : Nat, (i : Int) < Z 190 15 → (j : Int) < Z 190 15 → (w : Int) < Z 190 15 → bk_same Z W i w → bk_same Z W j w → i = j)
def Inv (T : Int) (Z : Nat → Nat → Int) (W : Nat → Nat) : Prop := lr 46 T Z ∧ tx Z ∧ bk Z W ∧ Z 190 29 = -1
/-- a call of both: the same answer, and the relation again -/
def Op (T : Int) (L : Nat) (Z : Nat → Nat → Int) (W : Nat → Nat) (c r : Nat) (ac ar : List Value) : Prop :=
  ∃ (v : Int) (Z1 : Nat → Nat → Int) (W1 : Nat → Nat) (Z2 : Nat → Nat → Int) (W2 : Nat → Nat), pm_r v ∧
    pm_D (c, 0, .ref 0 :: ac, [], pm_hp L Z W) = some (some (.int (pm_J v)), pm_hp L Z1 W1) ∧
    pm_D (r, 0, .ref 190 :: ar, [], pm_hp L Z1 W1) = some (some (.int (pm_J v)), pm_hp L Z2 W2) ∧ Inv (T + 300) Z2 W2 ∧ Z1 1000000 = Z 1000000 ∧ Z2 1000000 = Z 1000000
