/-! the heap behind the two constructors, and the pure machine over it in whole numbers -/
def pm_NC : Nat := 212
def pm_SC : Nat := 12817
def pm_cl : List (Nat × Nat) := [(8, 5), (5, 2), (11, 60), (0, 2), (15, 20), (7, 4), (11, 10), (7, 4), (11, 10), (7, 4), (11, 10), (7, 4), (11, 10), (7, 4), (11, 10), (7, 4), (11, 10), (7, 4), (11, 10), (7, 4), (11, 10), (7, 4), (11, 10), (7, 4), (11, 10), (7, 4), (11, 10), (7, 4), (11, 10), (7, 4), (11, 10), (7, 4), (11, 10), (7, 4), (11, 10), (7, 4), (11, 10), (7, 4), (11, 10), (7, 4), (11, 10), (7, 4), (11, 10), (7, 4), (11, 10), (11, 30), (2, 12), (6, 6), (11, 12), (11, 12), (11, 12), (1, 4), (11, 16), (11, 16), (11, 16), (14, 10), (13, 7), (11, 8), (12, 7), (11, 8), (11, 8), (4, 15), (11, 240), (11, 8), (11, 7), (11, 7), (4, 15), (11, 240), (11, 8), (11, 7), (11, 7), (4, 15), (11, 240), (11, 8), (11, 7), (11, 7), (4, 15), (11, 240), (11, 8), (11, 7), (11, 7), (4, 15), (11, 240), (11, 8), (11, 7), (11, 7), (4, 15), (11, 240), (11, 8), (11, 7), (11, 7), (4, 15), (11, 240), (11, 8), (11, 7), (11, 7), (4, 15), (11, 240), (11, 8), (11, 7), (11, 7), (4, 15), (11, 240), (11, 8), (11, 7), (11, 7), (4, 15), (11, 240), (11, 8), (11, 7), (11, 7), (3, 4), (3, 4), (3, 4), (3, 4), (3, 4), (3, 4), (3, 4), (2, 12), (6, 6), (11, 12), (11, 12), (11, 12), (1, 4), (11, 16), (11, 16), (11, 16), (14, 10), (13, 7), (11, 8), (12, 7), (11, 8), (11, 8), (4, 15), (11, 240), (11, 8), (11, 7), (11, 7), (4, 15), (11, 240), (11, 8), (11, 7), (11, 7), (4, 15), (11, 240), (11, 8), (11, 7), (11, 7), (4, 15), (11, 240), (11, 8), (11, 7), (11, 7), (4, 15), (11, 240), (11, 8), (11, 7), (11, 7), (4, 15), (11, 240), (11, 8), (11, 7), (11, 7), (4, 15), (11, 240), (11, 8), (11, 7), (11, 7), (4, 15), (11, 240), (11, 8), (11, 7), (11, 7), (4, 15), (11, 240), (11, 8), (11, 7), (11, 7), (4, 15), (11, 240), (11, 8), (11, 7), (11, 7), (3, 4), (3, 4), (3, 4), (3, 4), (3, 4), (3, 4), (3, 4), (9, 32), (11, 2711), (11, 2711), (11, 12), (11, 12), (11, 12), (11, 16), (11, 16), (11, 16), (10, 60), (11, 20), (11, 200), (11, 20), (11, 20), (11, 200), (11, 10), (11, 10), (11, 10), (11, 10), (11, 400), (11, 8), (11, 8)]
def pm_kd (a : Nat) : Nat := (pm_cl.getD a (99, 0)).1
def pm_ln (a : Nat) : Nat := (pm_cl.getD a (99, 0)).2
/-- where a reference field points, from its object's address -/
def pm_dl : Nat → Nat → Nat := fun k j => match k, j with
  | 0, 0 => 1
  | 1, 0 => 1
  | 1, 1 => 2
  | 1, 2 => 3
  | 2, 0 => 1
  | 2, 1 => 5
  | 2, 5 => 9
  | 2, 6 => 10
  | 2, 7 => 11
  | 2, 8 => 12
  | 2, 9 => 13
  | 2, 10 => 14
  | 4, 11 => 1
  | 4, 12 => 2
  | 4, 13 => 3
  | 4, 14 => 4
  | 5, 0 => 1
  | 6, 2 => 1
  | 6, 3 => 2
  | 6, 4 => 3
  | 7, 0 => 1
  | 8, 0 => 1
  | 8, 1 => 3
  | 8, 2 => 45
  | 8, 3 => 46
  | 8, 4 => 118
  | 9, 3 => 1
  | 9, 4 => 2
  | 9, 6 => 3
  | 9, 7 => 4
  | 9, 8 => 5
  | 9, 10 => 6
  | 9, 11 => 7
  | 9, 12 => 8
  | 9, 14 => 9
  | 9, 16 => 10
  | 9, 17 => 11
  | 9, 18 => 12
  | 9, 19 => 13
  | 9, 21 => 14
  | 9, 23 => 15
  | 9, 24 => 16
  | 9, 25 => 17
  | 9, 26 => 18
  | 9, 28 => 19
  | 9, 30 => 20
  | 9, 31 => 21
  | _, _ => 0
def pm_rf (W : Nat → Nat) (a j : Nat) : Option Nat :=
  if pm_kd a < 10 then (if j < pm_N (pm_kd a) ∧ pm_fz (pm_kd a) j = 1 then some (a + pm_dl (pm_kd a) j) else none)
  else if j < pm_ln a then (if pm_kd a = 15 then some (W j) else if pm_kd a = 14 then some (a + 6 + 5 * j) else if pm_kd a = 13 then some (a + 55 + j) else none) else none
def pm_J (z : Int) : Int32 := Int32.ofInt z
/-- the heap in whole numbers: L the script's length, Z what the int slots hold, W the words' row -/
def pm_hp (L : Nat) (Z : Nat → Nat → Int) (W : Nat → Nat) : pm_H := (pm_NC, pm_SC, (fun a => if a = pm_scr then (11, L) else if a < pm_NC then pm_cl.getD a (99, 0) else (0, 0)), (fun a j => pm_J (Z a j)), pm_rf W)
def pm_up (Z : Nat → Nat → Int) (a j : Nat) (v : Int) : Nat → Nat → Int := fun b i => if b = a ∧ i = j then v else Z b i
def pm_cpz (Z : Nat → Nat → Int) (s d sp dp n : Nat) : Nat → Nat → Int := fun b i => if b = d ∧ dp ≤ i ∧ i < dp + n then Z s (sp + (i - dp)) else Z b i
def pm_upW (W : Nat → Nat) (j v : Nat) : Nat → Nat := fun i => if i = j then v else W i
theorem pm_J_add (x y : Int) : pm_J x + pm_J y = pm_J (x + y) := (Int32.ofInt_add x y).symm
theorem pm_J_sub (x y : Int) : pm_J x - pm_J y = pm_J (x - y) := (Int32.ofInt_sub x y).symm
theorem pm_J_mul (x y : Int) : pm_J x * pm_J y = pm_J (x * y) := (Int32.ofInt_mul x y).symm
theorem pm_J_toInt (x : Int32) : pm_J x.toInt = x := Int32.ofInt_toInt x
theorem pm_toInt_J {x : Int} (h1 : -2147483648 ≤ x) (h2 : x < 2147483648) : (pm_J x).toInt = x := Int32.toInt_ofInt_of_le h1 h2
theorem pm_J_lt {x y : Int} (h1 : -2147483648 ≤ x) (h2 : x < 2147483648) (h3 : -2147483648 ≤ y) (h4 : y < 2147483648) : pm_J x < pm_J y ↔ x < y := by rw [Int32.lt_iff_toInt_lt, pm_toInt_J h1 h2, pm_toInt_J h3 h4]
theorem pm_J_eq {x y : Int} (h1 : -2147483648 ≤ x) (h2 : x < 2147483648) (h3 : -2147483648 ≤ y) (h4 : y < 2147483648) : pm_J x = pm_J y ↔ x = y := by rw [← Int32.toInt_inj, pm_toInt_J h1 h2, pm_toInt_J h3 h4]
theorem pm_J_nat {z : Int} (h1 : 0 ≤ z) (h2 : z < 2147483648) : (pm_J z).toNatClampNeg = z.toNat := Int32.toNatClampNeg_ofInt_of_le (by omega) h2
theorem pm_J_nn {z : Int} (h1 : 0 ≤ z) (h2 : z < 2147483648) : (0 : Int32) ≤ pm_J z := by
  rw [Int32.le_iff_toInt_le, pm_toInt_J (by omega) h2]
  exact h1
theorem pm_J0 : (0 : Int32) = pm_J 0 := rfl
theorem pm_J1 : (1 : Int32) = pm_J 1 := rfl
theorem pm_kd_lt {a : Nat} (h : pm_kd a < 16) : a < pm_NC := by
  by_cases ha : a < pm_NC
  · exact ha
  · have : pm_cl.getD a (99, 0) = (99, 0) := by
      rw [List.getD_eq_getElem?_getD, List.getElem?_eq_none (by show pm_NC ≤ a; omega)]
      rfl
    unfold pm_kd at h
    rw [this] at h
    omega
theorem pm_hk_hp {L : Nat} {Z : Nat → Nat → Int} {W : Nat → Nat} {a : Nat} (h : pm_kd a < 16) : pm_hk (pm_hp L Z W) a = pm_kd a ∧ pm_hl (pm_hp L Z W) a = pm_ln a ∧ a < (pm_hp L Z W).1 := by
  have ha := pm_kd_lt h
  have hs : a ≠ pm_scr := by
    intro q
    rw [q] at ha
    exact absurd ha (by decide)
  refine ⟨?_, ?_, ha⟩
  · show (if a = pm_scr then (11, L) else if a < pm_NC then pm_cl.getD a (99, 0) else (0, 0)).1 = _
    rw [if_neg hs, if_pos ha]
    rfl
  · show (if a = pm_scr then (11, L) else if a < pm_NC then pm_cl.getD a (99, 0) else (0, 0)).2 = _
    rw [if_neg hs, if_pos ha]
    rfl
theorem pm_ln_le (a : Nat) : pm_ln a < 10000 := by
  by_cases ha : a < pm_NC
  · exact (by decide +kernel : ∀ a, a < pm_NC → pm_ln a < 10000) a ha
  · have : pm_cl.getD a (99, 0) = (99, 0) := by
      rw [List.getD_eq_getElem?_getD, List.getElem?_eq_none (by show pm_NC ≤ a; omega)]
      rfl
    unfold pm_ln
    rw [this]
    decide
theorem pm_set_hp (L : Nat) (Z : Nat → Nat → Int) (W : Nat → Nat) (a j : Nat) (v : Int) : pm_setI (pm_hp L Z W) a j (pm_J v) = pm_hp L (pm_up Z a j v) W := by
  unfold pm_setI pm_hp
  congr 3
  congr 1
  funext b i
  unfold pm_up
  by_cases hb : b = a
  · subst hb
    rw [if_pos rfl]
    unfold upd
    by_cases hi : i = j
    · simp [hi]
    · simp [hi]
  · simp [hb]
theorem pm_cpy_hp (L : Nat) (Z : Nat → Nat → Int) (W : Nat → Nat) (s d sp dp n : Nat) : pm_cpy (pm_hp L Z W) s d sp dp n = pm_hp L (pm_cpz Z s d sp dp n) W := by
  unfold pm_cpy pm_hp
  congr 3
  congr 1
  funext b i
  unfold pm_cpz va_cpy
  by_cases hb : b = d
  · subst hb
    rw [if_pos rfl]
    by_cases hi : dp ≤ i ∧ i < dp + n
    · rw [if_pos hi, if_pos ⟨rfl, hi⟩]
    · rw [if_neg hi, if_neg (fun q => hi q.2)]
  · rw [if_neg hb, if_neg (fun q => hb q.1)]
section PE
variable {m pc len x y z w : Nat} {ls st : List Value} {h : pm_H} {L : Nat} {Z : Nat → Nat → Int} {W : Nat → Nat}
theorem pm_e_aload_n {k : Fin 4} {a : Nat} (hc : pm_code m pc = some (.aload_n k, len, x, y, z, w)) (hl : ls[k.val]? = some (.ref a)) : pm_D (m, pc, ls, st, h) = pm_D (m, pc + 1, ls, .ref a :: st, h) := pm_D_go (by rw [pm_st_of hc]; show pm_aload _ _ _ _ _ _ = _; unfold pm_aload; rw [hl]; rfl)
theorem pm_e_aload {k : Nat} {a : Nat} (hc : pm_code m pc = some (.aload k, len, x, y, z, w)) (hl : ls[k]? = some (.ref a)) : pm_D (m, pc, ls, st, h) = pm_D (m, pc + 2, ls, .ref a :: st, h) := pm_D_go (by rw [pm_st_of hc]; show pm_aload _ _ _ _ _ _ = _; unfold pm_aload; rw [hl]; rfl)
theorem pm_e_iload_n {k : Fin 4} {a : Int32} (hc : pm_code m pc = some (.iload_n k, len, x, y, z, w)) (hl : ls[k.val]? = some (.int a)) : pm_D (m, pc, ls, st, h) = pm_D (m, pc + 1, ls, .int a :: st, h) := pm_D_go (by rw [pm_st_of hc]; show pm_iload _ _ _ _ _ _ = _; unfold pm_iload; rw [hl]; rfl)
theorem pm_e_iload {k : Nat} {a : Int32} (hc : pm_code m pc = some (.iload k, len, x, y, z, w)) (hl : ls[k]? = some (.int a)) : pm_D (m, pc, ls, st, h) = pm_D (m, pc + 2, ls, .int a :: st, h) := pm_D_go (by rw [pm_st_of hc]; show pm_iload _ _ _ _ _ _ = _; unfold pm_iload; rw [hl]; rfl)
theorem pm_e_istore_n {k : Fin 4} {a : Int32} (hc : pm_code m pc = some (.istore_n k, len, x, y, z, w)) (hl : k.val < ls.length) : pm_D (m, pc, ls, .int a :: st, h) = pm_D (m, pc + 1, ls.set k.val (.int a), st, h) := pm_D_go (by rw [pm_st_of hc]; show (if k.val < ls.length then _ else _) = _; rw [if_pos hl]; rfl)
theorem pm_e_istore {k : Nat} {a : Int32} (hc : pm_code m pc = some (.istore k, len, x, y, z, w)) (hl : k < ls.length) : pm_D (m, pc, ls, .int a :: st, h) = pm_D (m, pc + 2, ls.set k (.int a), st, h) := pm_D_go (by rw [pm_st_of hc]; show (if k < ls.length then _ else _) = _; rw [if_pos hl]; rfl)
theorem pm_e_astore_n {k : Fin 4} {a : Nat} (hc : pm_code m pc = some (.astore_n k, len, x, y, z, w)) (hl : k.val < ls.length) : pm_D (m, pc, ls, .ref a :: st, h) = pm_D (m, pc + 1, ls.set k.val (.ref a), st, h) := pm_D_go (by rw [pm_st_of hc]; show (if k.val < ls.length then _ else _) = _; rw [if_pos hl]; rfl)
theorem pm_e_astore {k : Nat} {a : Nat} (hc : pm_code m pc = some (.astore k, len, x, y, z, w)) (hl : k < ls.length) : pm_D (m, pc, ls, .ref a :: st, h) = pm_D (m, pc + 2, ls.set k (.ref a), st, h) := pm_D_go (by rw [pm_st_of hc]; show (if k < ls.length then _ else _) = _; rw [if_pos hl]; rfl)
theorem pm_e_iinc {k : Nat} {n a : Int} (hc : pm_code m pc = some (.iinc k n, len, x, y, z, w)) (hl : ls[k]? = some (.int (pm_J a))) : pm_D (m, pc, ls, st, h) = pm_D (m, pc + 3, ls.set k (.int (pm_J (a + n))), st, h) := pm_D_go (by
  have hk : k < ls.length := (List.getElem?_eq_some_iff.mp hl).1
  rw [pm_st_of hc]; show pm_iinc _ _ _ _ _ _ _ = _; unfold pm_iinc; rw [hl]; dsimp only; rw [if_pos hk, ← pm_J_add]; rfl)
theorem pm_e_iconst {n : Int} (hc : pm_code m pc = some (.iconst n, len, x, y, z, w)) : pm_D (m, pc, ls, st, h) = pm_D (m, pc + 1, ls, .int (pm_J n) :: st, h) := pm_D_go (by rw [pm_st_of hc]; rfl)
theorem pm_e_bipush {n : Int} (hc : pm_code m pc = some (.bipush n, len, x, y, z, w)) (hn : (Int8.ofInt n).toInt32 = pm_J n) : pm_D (m, pc, ls, st, h) = pm_D (m, pc + 2, ls, .int (pm_J n) :: st, h) := pm_D_go (by rw [pm_st_of hc, ← hn]; rfl)
theorem pm_e_sipush {n : Int} (hc : pm_code m pc = some (.sipush n, len, x, y, z, w)) (hn : (Int16.ofInt n).toInt32 = pm_J n) : pm_D (m, pc, ls, st, h) = pm_D (m, pc + 3, ls, .int (pm_J n) :: st, h) := pm_D_go (by rw [pm_st_of hc, ← hn]; rfl)
theorem pm_e_ldc {n : Nat} (hc : pm_code m pc = some (.ldc n, len, x, y, z, w)) : pm_D (m, pc, ls, st, h) = pm_D (m, pc + 2, ls, .int (pm_J x) :: st, h) := pm_D_go (by rw [pm_st_of hc, show pm_J x = Int32.ofNat x from Int32.ofInt_eq_ofNat]; rfl)
theorem pm_e_iadd {a b : Int} (hc : pm_code m pc = some (.iadd, len, x, y, z, w)) : pm_D (m, pc, ls, .int (pm_J b) :: .int (pm_J a) :: st, h) = pm_D (m, pc + 1, ls, .int (pm_J (a + b)) :: st, h) := pm_D_go (by rw [pm_st_of hc, ← pm_J_add]; rfl)
theorem pm_e_isub {a b : Int} (hc : pm_code m pc = some (.isub, len, x, y, z, w)) : pm_D (m, pc, ls, .int (pm_J b) :: .int (pm_J a) :: st, h) = pm_D (m, pc + 1, ls, .int (pm_J (a - b)) :: st, h) := pm_D_go (by rw [pm_st_of hc, ← pm_J_sub]; rfl)
theorem pm_e_imul {a b : Int} (hc : pm_code m pc = some (.imul, len, x, y, z, w)) : pm_D (m, pc, ls, .int (pm_J b) :: .int (pm_J a) :: st, h) = pm_D (m, pc + 1, ls, .int (pm_J (a * b)) :: st, h) := pm_D_go (by rw [pm_st_of hc, ← pm_J_mul]; rfl)
theorem pm_e_irem {a b : Int} (hc : pm_code m pc = some (.irem, len, x, y, z, w)) (h1 : 0 ≤ a) (h2 : a < 2147483648) (h3 : 0 < b) (h4 : b < 2147483648) : pm_D (m, pc, ls, .int (pm_J b) :: .int (pm_J a) :: st, h) = pm_D (m, pc + 1, ls, .int (pm_J (a % b)) :: st, h) := pm_D_go (by
  have hb : ¬ pm_J b = 0 := by
    rw [pm_J0, pm_J_eq (by omega) h4 (by omega) (by omega)]
    omega
  have e : pm_J a - pm_J a / pm_J b * pm_J b = pm_J (a % b) := by
    have hd : pm_J a / pm_J b = pm_J (a / b) := by
      have := Int32.ofInt_tdiv (a := a) (b := b) (by show -2147483648 ≤ a; omega) (by show a ≤ 2147483647; omega) (by show -2147483648 ≤ b; omega) (by show b ≤ 2147483647; omega)
      rw [Int.tdiv_eq_ediv_of_nonneg h1] at this
      exact this.symm
    rw [hd, pm_J_mul, pm_J_sub]
    congr 1
    have := Int.emod_add_mul_ediv a b
    have hcm : b * (a / b) = a / b * b := Int.mul_comm _ _
    omega
  rw [pm_st_of hc]
  show (if pm_J b = 0 then none else pm_go _ _ _ _ _) = _
  rw [if_neg hb, e]
  rfl)
theorem pm_e_dupR {a : Nat} (hc : pm_code m pc = some (.dup, len, x, y, z, w)) : pm_D (m, pc, ls, .ref a :: st, h) = pm_D (m, pc + 1, ls, .ref a :: .ref a :: st, h) := pm_D_go (by rw [pm_st_of hc]; rfl)
theorem pm_e_dupI {a : Int32} (hc : pm_code m pc = some (.dup, len, x, y, z, w)) : pm_D (m, pc, ls, .int a :: st, h) = pm_D (m, pc + 1, ls, .int a :: .int a :: st, h) := pm_D_go (by rw [pm_st_of hc]; rfl)
theorem pm_e_dup2 {a : Nat} {b : Int32} (hc : pm_code m pc = some (.dup2, len, x, y, z, w)) : pm_D (m, pc, ls, .int b :: .ref a :: st, h) = pm_D (m, pc + 1, ls, .int b :: .ref a :: .int b :: .ref a :: st, h) := pm_D_go (by rw [pm_st_of hc]; rfl)
theorem pm_e_goto {o : Int} (hc : pm_code m pc = some (.goto o, len, x, y, z, w)) : pm_D (m, pc, ls, st, h) = pm_D (m, x, ls, st, h) := pm_D_go (by rw [pm_st_of hc]; rfl)
theorem pm_e_icmp_eq {a b o : Int} (hc : pm_code m pc = some (.if_icmp .eq o, len, x, y, z, w)) (h1 : -2147483648 ≤ a) (h2 : a < 2147483648) (h3 : -2147483648 ≤ b) (h4 : b < 2147483648) : pm_D (m, pc, ls, .int (pm_J b) :: .int (pm_J a) :: st, h) = if a = b then pm_D (m, x, ls, st, h) else pm_D (m, pc + 3, ls, st, h) := by
  by_cases hq : pm_J a = pm_J b
  · rw [if_pos ((pm_J_eq h1 h2 h3 h4).mp hq)]
    exact pm_D_go (by rw [pm_st_of hc]; show (if pm_J a = pm_J b then _ else _) = _; rw [if_pos hq]; rfl)
  · rw [if_neg (fun q => hq ((pm_J_eq h1 h2 h3 h4).mpr q))]
    exact pm_D_go (by rw [pm_st_of hc]; show (if pm_J a = pm_J b then _ else _) = _; rw [if_neg hq]; rfl)
theorem pm_e_ifc_eq {a o : Int} (hc : pm_code m pc = some (.ifCond .eq o, len, x, y, z, w)) (h1 : -2147483648 ≤ a) (h2 : a < 2147483648) : pm_D (m, pc, ls, .int (pm_J a) :: st, h) = if a = 0 then pm_D (m, x, ls, st, h) else pm_D (m, pc + 3, ls, st, h) := by
  by_cases hq : pm_J a = pm_J 0
  · rw [if_pos ((pm_J_eq h1 h2 (by omega) (by omega)).mp hq)]
    exact pm_D_go (by rw [pm_st_of hc]; show (if pm_J a = pm_J 0 then _ else _) = _; rw [if_pos hq]; rfl)
  · rw [if_neg (fun q => hq ((pm_J_eq h1 h2 (by omega) (by omega)).mpr q))]
    exact pm_D_go (by rw [pm_st_of hc]; show (if pm_J a = pm_J 0 then _ else _) = _; rw [if_neg hq]; rfl)
theorem pm_e_icmp_ne {a b o : Int} (hc : pm_code m pc = some (.if_icmp .ne o, len, x, y, z, w)) (h1 : -2147483648 ≤ a) (h2 : a < 2147483648) (h3 : -2147483648 ≤ b) (h4 : b < 2147483648) : pm_D (m, pc, ls, .int (pm_J b) :: .int (pm_J a) :: st, h) = if a = b then pm_D (m, pc + 3, ls, st, h) else pm_D (m, x, ls, st, h) := by
  by_cases hq : pm_J a = pm_J b
  · rw [if_pos ((pm_J_eq h1 h2 h3 h4).mp hq)]
    exact pm_D_go (by rw [pm_st_of hc]; show (if pm_J a = pm_J b then _ else _) = _; rw [if_pos hq]; rfl)
  · rw [if_neg (fun q => hq ((pm_J_eq h1 h2 h3 h4).mpr q))]
    exact pm_D_go (by rw [pm_st_of hc]; show (if pm_J a = pm_J b then _ else _) = _; rw [if_neg hq]; rfl)
theorem pm_e_ifc_ne {a o : Int} (hc : pm_code m pc = some (.ifCond .ne o, len, x, y, z, w)) (h1 : -2147483648 ≤ a) (h2 : a < 2147483648) : pm_D (m, pc, ls, .int (pm_J a) :: st, h) = if a = 0 then pm_D (m, pc + 3, ls, st, h) else pm_D (m, x, ls, st, h) := by
  by_cases hq : pm_J a = pm_J 0
  · rw [if_pos ((pm_J_eq h1 h2 (by omega) (by omega)).mp hq)]
    exact pm_D_go (by rw [pm_st_of hc]; show (if pm_J a = pm_J 0 then _ else _) = _; rw [if_pos hq]; rfl)
  · rw [if_neg (fun q => hq ((pm_J_eq h1 h2 (by omega) (by omega)).mpr q))]
    exact pm_D_go (by rw [pm_st_of hc]; show (if pm_J a = pm_J 0 then _ else _) = _; rw [if_neg hq]; rfl)
theorem pm_e_icmp_lt {a b o : Int} (hc : pm_code m pc = some (.if_icmp .lt o, len, x, y, z, w)) (h1 : -2147483648 ≤ a) (h2 : a < 2147483648) (h3 : -2147483648 ≤ b) (h4 : b < 2147483648) : pm_D (m, pc, ls, .int (pm_J b) :: .int (pm_J a) :: st, h) = if a < b then pm_D (m, x, ls, st, h) else pm_D (m, pc + 3, ls, st, h) := by
  by_cases hq : pm_J a < pm_J b
  · rw [if_pos ((pm_J_lt h1 h2 h3 h4).mp hq)]
    exact pm_D_go (by rw [pm_st_of hc]; show (if pm_J a < pm_J b then _ else _) = _; rw [if_pos hq]; rfl)
  · rw [if_neg (fun q => hq ((pm_J_lt h1 h2 h3 h4).mpr q))]
    exact pm_D_go (by rw [pm_st_of hc]; show (if pm_J a < pm_J b then _ else _) = _; rw [if_neg hq]; rfl)
theorem pm_e_ifc_lt {a o : Int} (hc : pm_code m pc = some (.ifCond .lt o, len, x, y, z, w)) (h1 : -2147483648 ≤ a) (h2 : a < 2147483648) : pm_D (m, pc, ls, .int (pm_J a) :: st, h) = if a < 0 then pm_D (m, x, ls, st, h) else pm_D (m, pc + 3, ls, st, h) := by
  by_cases hq : pm_J a < pm_J 0
  · rw [if_pos ((pm_J_lt h1 h2 (by omega) (by omega)).mp hq)]
    exact pm_D_go (by rw [pm_st_of hc]; show (if pm_J a < pm_J 0 then _ else _) = _; rw [if_pos hq]; rfl)
  · rw [if_neg (fun q => hq ((pm_J_lt h1 h2 (by omega) (by omega)).mpr q))]
    exact pm_D_go (by rw [pm_st_of hc]; show (if pm_J a < pm_J 0 then _ else _) = _; rw [if_neg hq]; rfl)
theorem pm_e_icmp_ge {a b o : Int} (hc : pm_code m pc = some (.if_icmp .ge o, len, x, y, z, w)) (h1 : -2147483648 ≤ a) (h2 : a < 2147483648) (h3 : -2147483648 ≤ b) (h4 : b < 2147483648) : pm_D (m, pc, ls, .int (pm_J b) :: .int (pm_J a) :: st, h) = if a < b then pm_D (m, pc + 3, ls, st, h) else pm_D (m, x, ls, st, h) := by
  by_cases hq : pm_J a < pm_J b
  · rw [if_pos ((pm_J_lt h1 h2 h3 h4).mp hq)]
    exact pm_D_go (by rw [pm_st_of hc]; show (if pm_J a < pm_J b then _ else _) = _; rw [if_pos hq]; rfl)
  · rw [if_neg (fun q => hq ((pm_J_lt h1 h2 h3 h4).mpr q))]
    exact pm_D_go (by rw [pm_st_of hc]; show (if pm_J a < pm_J b then _ else _) = _; rw [if_neg hq]; rfl)
theorem pm_e_ifc_ge {a o : Int} (hc : pm_code m pc = some (.ifCond .ge o, len, x, y, z, w)) (h1 : -2147483648 ≤ a) (h2 : a < 2147483648) : pm_D (m, pc, ls, .int (pm_J a) :: st, h) = if a < 0 then pm_D (m, pc + 3, ls, st, h) else pm_D (m, x, ls, st, h) := by
  by_cases hq : pm_J a < pm_J 0
  · rw [if_pos ((pm_J_lt h1 h2 (by omega) (by omega)).mp hq)]
    exact pm_D_go (by rw [pm_st_of hc]; show (if pm_J a < pm_J 0 then _ else _) = _; rw [if_pos hq]; rfl)
  · rw [if_neg (fun q => hq ((pm_J_lt h1 h2 (by omega) (by omega)).mpr q))]
    exact pm_D_go (by rw [pm_st_of hc]; show (if pm_J a < pm_J 0 then _ else _) = _; rw [if_neg hq]; rfl)
theorem pm_e_icmp_gt {a b o : Int} (hc : pm_code m pc = some (.if_icmp .gt o, len, x, y, z, w)) (h1 : -2147483648 ≤ a) (h2 : a < 2147483648) (h3 : -2147483648 ≤ b) (h4 : b < 2147483648) : pm_D (m, pc, ls, .int (pm_J b) :: .int (pm_J a) :: st, h) = if b < a then pm_D (m, x, ls, st, h) else pm_D (m, pc + 3, ls, st, h) := by
  by_cases hq : pm_J b < pm_J a
  · rw [if_pos ((pm_J_lt h3 h4 h1 h2).mp hq)]
    exact pm_D_go (by rw [pm_st_of hc]; show (if pm_J b < pm_J a then _ else _) = _; rw [if_pos hq]; rfl)
  · rw [if_neg (fun q => hq ((pm_J_lt h3 h4 h1 h2).mpr q))]
    exact pm_D_go (by rw [pm_st_of hc]; show (if pm_J b < pm_J a then _ else _) = _; rw [if_neg hq]; rfl)
theorem pm_e_ifc_gt {a o : Int} (hc : pm_code m pc = some (.ifCond .gt o, len, x, y, z, w)) (h1 : -2147483648 ≤ a) (h2 : a < 2147483648) : pm_D (m, pc, ls, .int (pm_J a) :: st, h) = if 0 < a then pm_D (m, x, ls, st, h) else pm_D (m, pc + 3, ls, st, h) := by
  by_cases hq : pm_J 0 < pm_J a
  · rw [if_pos ((pm_J_lt (by omega) (by omega) h1 h2).mp hq)]
    exact pm_D_go (by rw [pm_st_of hc]; show (if pm_J 0 < pm_J a then _ else _) = _; rw [if_pos hq]; rfl)
  · rw [if_neg (fun q => hq ((pm_J_lt (by omega) (by omega) h1 h2).mpr q))]
    exact pm_D_go (by rw [pm_st_of hc]; show (if pm_J 0 < pm_J a then _ else _) = _; rw [if_neg hq]; rfl)
theorem pm_e_icmp_le {a b o : Int} (hc : pm_code m pc = some (.if_icmp .le o, len, x, y, z, w)) (h1 : -2147483648 ≤ a) (h2 : a < 2147483648) (h3 : -2147483648 ≤ b) (h4 : b < 2147483648) : pm_D (m, pc, ls, .int (pm_J b) :: .int (pm_J a) :: st, h) = if b < a then pm_D (m, pc + 3, ls, st, h) else pm_D (m, x, ls, st, h) := by
  by_cases hq : pm_J b < pm_J a
  · rw [if_pos ((pm_J_lt h3 h4 h1 h2).mp hq)]
    exact pm_D_go (by rw [pm_st_of hc]; show (if pm_J b < pm_J a then _ else _) = _; rw [if_pos hq]; rfl)
  · rw [if_neg (fun q => hq ((pm_J_lt h3 h4 h1 h2).mpr q))]
    exact pm_D_go (by rw [pm_st_of hc]; show (if pm_J b < pm_J a then _ else _) = _; rw [if_neg hq]; rfl)
theorem pm_e_ifc_le {a o : Int} (hc : pm_code m pc = some (.ifCond .le o, len, x, y, z, w)) (h1 : -2147483648 ≤ a) (h2 : a < 2147483648) : pm_D (m, pc, ls, .int (pm_J a) :: st, h) = if 0 < a then pm_D (m, pc + 3, ls, st, h) else pm_D (m, x, ls, st, h) := by
  by_cases hq : pm_J 0 < pm_J a
  · rw [if_pos ((pm_J_lt (by omega) (by omega) h1 h2).mp hq)]
    exact pm_D_go (by rw [pm_st_of hc]; show (if pm_J 0 < pm_J a then _ else _) = _; rw [if_pos hq]; rfl)
  · rw [if_neg (fun q => hq ((pm_J_lt (by omega) (by omega) h1 h2).mpr q))]
    exact pm_D_go (by rw [pm_st_of hc]; show (if pm_J 0 < pm_J a then _ else _) = _; rw [if_neg hq]; rfl)
theorem pm_e_getI {k a : Nat} (hc : pm_code m pc = some (.getfield k, len, x, y, z, w)) (hz : z ≠ 1) (hx : x < 10) (hk : pm_kd a = x) : pm_D (m, pc, ls, .ref a :: st, pm_hp L Z W) = pm_D (m, pc + 3, ls, .int (pm_J (Z a y)) :: st, pm_hp L Z W) := pm_D_go (by
  obtain ⟨k1, k2, k3⟩ := pm_hk_hp (L := L) (Z := Z) (W := W) (a := a) (by omega)
  rw [pm_st_of hc]
  show (if _ then (if z = 1 then _ else _) else _) = _
  rw [if_pos ⟨k3, k1.trans hk⟩, if_neg hz]
  rfl)
theorem pm_e_getR {k a : Nat} (hc : pm_code m pc = some (.getfield k, len, x, y, 1, w)) (hx : x < 10) (hy : y < pm_N x) (hf : pm_fz x y = 1) (hk : pm_kd a = x) : pm_D (m, pc, ls, .ref a :: st, pm_hp L Z W) = pm_D (m, pc + 3, ls, .ref (a + pm_dl x y) :: st, pm_hp L Z W) := pm_D_go (by
  obtain ⟨k1, k2, k3⟩ := pm_hk_hp (L := L) (Z := Z) (W := W) (a := a) (by omega)
  have e : pm_hr (pm_hp L Z W) a y = some (a + pm_dl x y) := by
    show pm_rf W a y = _
    unfold pm_rf
    rw [hk, if_pos hx, if_pos ⟨hy, hf⟩]
  rw [pm_st_of hc]
  show (if _ then (if 1 = 1 then _ else _) else _) = _
  rw [if_pos ⟨k3, k1.trans hk⟩, if_pos rfl, e]
  rfl)
theorem pm_e_putI {k a : Nat} {v : Int} (hc : pm_code m pc = some (.putfield k, len, x, y, 0, w)) (hx : x < 10) (hk : pm_kd a = x) : pm_D (m, pc, ls, .int (pm_J v) :: .ref a :: st, pm_hp L Z W) = pm_D (m, pc + 3, ls, st, pm_hp L (pm_up Z a y v) W) := pm_D_go (by
  obtain ⟨k1, k2, k3⟩ := pm_hk_hp (L := L) (Z := Z) (W := W) (a := a) (by omega)
  rw [pm_st_of hc, ← pm_set_hp]
  show (if _ then _ else _) = _
  rw [if_pos ⟨k3, k1.trans hk, Or.inl rfl⟩]
  rfl)
theorem pm_e_putB {k a : Nat} {v : Int} (hc : pm_code m pc = some (.putfield k, len, x, y, 2, w)) (hx : x < 10) (hk : pm_kd a = x) (h1 : 0 ≤ v) (h2 : v ≤ 1) : pm_D (m, pc, ls, .int (pm_J v) :: .ref a :: st, pm_hp L Z W) = pm_D (m, pc + 3, ls, st, pm_hp L (pm_up Z a y v) W) := pm_D_go (by
  obtain ⟨k1, k2, k3⟩ := pm_hk_hp (L := L) (Z := Z) (W := W) (a := a) (by omega)
  have hv : pm_J v = 0 ∨ pm_J v = 1 := by
    rcases (show v = 0 ∨ v = 1 by omega) with rfl | rfl
    · exact Or.inl rfl
    · exact Or.inr rfl
  rw [pm_st_of hc, ← pm_set_hp]
  show (if _ then _ else _) = _
  rw [if_pos ⟨k3, k1.trans hk, Or.inr ⟨rfl, hv⟩⟩]
  rfl)
theorem pm_e_iaload {a n : Nat} {i : Int} (hc : pm_code m pc = some (.iaload, len, x, y, z, w)) (hk : pm_kd a = 11) (hn : pm_ln a = n) (h1 : 0 ≤ i) (h2 : i < n) : pm_D (m, pc, ls, .int (pm_J i) :: .ref a :: st, pm_hp L Z W) = pm_D (m, pc + 1, ls, .int (pm_J (Z a i.toNat)) :: st, pm_hp L Z W) := pm_D_go (by
  obtain ⟨k1, k2, k3⟩ := pm_hk_hp (L := L) (Z := Z) (W := W) (a := a) (by omega)
  have hle := pm_ln_le a
  rw [pm_st_of hc]
  show (if _ then _ else _) = _
  rw [if_pos ⟨by unfold pm_rdb; rw [decide_eq_true k3]; rfl, k1.trans hk, pm_J_nn h1 (by omega), by rw [pm_J_nat h1 (by omega), k2]; omega⟩, pm_J_nat h1 (by omega)]
  rfl)
theorem pm_e_baload {a n : Nat} {i : Int} (hc : pm_code m pc = some (.baload, len, x, y, z, w)) (hk : pm_kd a = 12) (hn : pm_ln a = n) (h1 : 0 ≤ i) (h2 : i < n) : pm_D (m, pc, ls, .int (pm_J i) :: .ref a :: st, pm_hp L Z W) = pm_D (m, pc + 1, ls, .int (pm_J (Z a i.toNat)) :: st, pm_hp L Z W) := pm_D_go (by
  obtain ⟨k1, k2, k3⟩ := pm_hk_hp (L := L) (Z := Z) (W := W) (a := a) (by omega)
  have hle := pm_ln_le a
  rw [pm_st_of hc]
  show (if _ then _ else _) = _
  rw [if_pos ⟨by unfold pm_rdb; rw [decide_eq_true k3]; rfl, k1.trans hk, pm_J_nn h1 (by omega), by rw [pm_J_nat h1 (by omega), k2]; omega⟩, pm_J_nat h1 (by omega)]
  rfl)
theorem pm_e_caload {a n : Nat} {i : Int} (hc : pm_code m pc = some (.caload, len, x, y, z, w)) (hk : pm_kd a = 10) (hn : pm_ln a = n) (h1 : 0 ≤ i) (h2 : i < n) : pm_D (m, pc, ls, .int (pm_J i) :: .ref a :: st, pm_hp L Z W) = pm_D (m, pc + 1, ls, .int (pm_J (Z a i.toNat)) :: st, pm_hp L Z W) := pm_D_go (by
  obtain ⟨k1, k2, k3⟩ := pm_hk_hp (L := L) (Z := Z) (W := W) (a := a) (by omega)
  have hle := pm_ln_le a
  rw [pm_st_of hc]
  show (if _ then _ else _) = _
  rw [if_pos ⟨by unfold pm_rdb; rw [decide_eq_true k3]; rfl, k1.trans hk, pm_J_nn h1 (by omega), by rw [pm_J_nat h1 (by omega), k2]; omega⟩, pm_J_nat h1 (by omega)]
  rfl)
theorem pm_e_iastore {a n : Nat} {i v : Int} (hc : pm_code m pc = some (.iastore, len, x, y, z, w)) (hk : pm_kd a = 11) (hn : pm_ln a = n) (h1 : 0 ≤ i) (h2 : i < n) : pm_D (m, pc, ls, .int (pm_J v) :: .int (pm_J i) :: .ref a :: st, pm_hp L Z W) = pm_D (m, pc + 1, ls, st, pm_hp L (pm_up Z a i.toNat v) W) := pm_D_go (by
  obtain ⟨k1, k2, k3⟩ := pm_hk_hp (L := L) (Z := Z) (W := W) (a := a) (by omega)
  have hle := pm_ln_le a
  have hv : vp_nar (pm_ety 11) (pm_J v) = pm_J v := rfl
  rw [pm_st_of hc, ← pm_set_hp]
  show (if _ then _ else _) = _
  rw [if_pos ⟨k3, k1.trans hk, pm_J_nn h1 (by omega), by rw [pm_J_nat h1 (by omega), k2]; omega⟩, pm_J_nat h1 (by omega), hv]
  rfl)
theorem pm_e_bastore {a n : Nat} {i v : Int} (hc : pm_code m pc = some (.bastore, len, x, y, z, w)) (hk : pm_kd a = 12) (hn : pm_ln a = n) (h1 : 0 ≤ i) (h2 : i < n) (h3 : 0 ≤ v) (h4 : v ≤ 1) : pm_D (m, pc, ls, .int (pm_J v) :: .int (pm_J i) :: .ref a :: st, pm_hp L Z W) = pm_D (m, pc + 1, ls, st, pm_hp L (pm_up Z a i.toNat v) W) := pm_D_go (by
  obtain ⟨k1, k2, k3⟩ := pm_hk_hp (L := L) (Z := Z) (W := W) (a := a) (by omega)
  have hle := pm_ln_le a
  have hv : vp_nar (pm_ety 12) (pm_J v) = pm_J v := by
    rcases (show v = 0 ∨ v = 1 by omega) with rfl | rfl <;> rfl
  rw [pm_st_of hc, ← pm_set_hp]
  show (if _ then _ else _) = _
  rw [if_pos ⟨k3, k1.trans hk, pm_J_nn h1 (by omega), by rw [pm_J_nat h1 (by omega), k2]; omega⟩, pm_J_nat h1 (by omega), hv]
  rfl)
theorem pm_nar_c {v : Int} (h3 : 0 ≤ v) (h4 : v < 65536) : vp_nar (pm_ety 10) (pm_J v) = pm_J v := by
  show (pm_J v).toUInt32.toUInt16.toUInt32.toInt32 = pm_J v
  obtain ⟨n, rfl⟩ := Int.eq_ofNat_of_zero_le h3
  have hn : n < 65536 := by omega
  rw [show pm_J (n : Int) = Int32.ofNat n from Int32.ofInt_eq_ofNat]
  apply Int32.toBitVec.inj
  apply BitVec.eq_of_toNat_eq
  simp
  omega
theorem pm_e_castore {a n : Nat} {i v : Int} (hc : pm_code m pc = some (.castore, len, x, y, z, w)) (hk : pm_kd a = 10) (hn : pm_ln a = n) (h1 : 0 ≤ i) (h2 : i < n) (h3 : 0 ≤ v) (h4 : v < 65536) : pm_D (m, pc, ls, .int (pm_J v) :: .int (pm_J i) :: .ref a :: st, pm_hp L Z W) = pm_D (m, pc + 1, ls, st, pm_hp L (pm_up Z a i.toNat v) W) := pm_D_go (by
  obtain ⟨k1, k2, k3⟩ := pm_hk_hp (L := L) (Z := Z) (W := W) (a := a) (by omega)
  have hle := pm_ln_le a
  have hv : vp_nar (pm_ety 10) (pm_J v) = pm_J v := pm_nar_c h3 h4
  rw [pm_st_of hc, ← pm_set_hp]
  show (if _ then _ else _) = _
  rw [if_pos ⟨k3, k1.trans hk, pm_J_nn h1 (by omega), by rw [pm_J_nat h1 (by omega), k2]; omega⟩, pm_J_nat h1 (by omega), hv]
  rfl)
theorem pm_e_aaload15 {a n : Nat} {i : Int} (hc : pm_code m pc = some (.aaload, len, x, y, z, w)) (hk : pm_kd a = 15) (hn : pm_ln a = n) (h1 : 0 ≤ i) (h2 : i < n) : pm_D (m, pc, ls, .int (pm_J i) :: .ref a :: st, pm_hp L Z W) = pm_D (m, pc + 1, ls, .ref (W i.toNat) :: st, pm_hp L Z W) := pm_D_go (by
  obtain ⟨k1, k2, k3⟩ := pm_hk_hp (L := L) (Z := Z) (W := W) (a := a) (by omega)
  have hle := pm_ln_le a
  have e : pm_hr (pm_hp L Z W) a i.toNat = some (W i.toNat) := by
    show pm_rf W a i.toNat = _
    unfold pm_rf
    rw [hk, if_neg (by decide), if_pos (by omega)]
    rfl
  rw [pm_st_of hc]
  show (if _ then _ else _) = _
  rw [if_pos ⟨k3, by rw [k1, hk]; decide, pm_J_nn h1 (by omega), by rw [pm_J_nat h1 (by omega), k2]; omega⟩, pm_J_nat h1 (by omega), e]
  rfl)
theorem pm_e_aaload14 {a n : Nat} {i : Int} (hc : pm_code m pc = some (.aaload, len, x, y, z, w)) (hk : pm_kd a = 14) (hn : pm_ln a = n) (h1 : 0 ≤ i) (h2 : i < n) : pm_D (m, pc, ls, .int (pm_J i) :: .ref a :: st, pm_hp L Z W) = pm_D (m, pc + 1, ls, .ref (a + 6 + 5 * i.toNat) :: st, pm_hp L Z W) := pm_D_go (by
  obtain ⟨k1, k2, k3⟩ := pm_hk_hp (L := L) (Z := Z) (W := W) (a := a) (by omega)
  have hle := pm_ln_le a
  have e : pm_hr (pm_hp L Z W) a i.toNat = some (a + 6 + 5 * i.toNat) := by
    show pm_rf W a i.toNat = _
    unfold pm_rf
    rw [hk, if_neg (by decide), if_pos (by omega)]
    rfl
  rw [pm_st_of hc]
  show (if _ then _ else _) = _
  rw [if_pos ⟨k3, by rw [k1, hk]; decide, pm_J_nn h1 (by omega), by rw [pm_J_nat h1 (by omega), k2]; omega⟩, pm_J_nat h1 (by omega), e]
  rfl)
theorem pm_e_aaload13 {a n : Nat} {i : Int} (hc : pm_code m pc = some (.aaload, len, x, y, z, w)) (hk : pm_kd a = 13) (hn : pm_ln a = n) (h1 : 0 ≤ i) (h2 : i < n) : pm_D (m, pc, ls, .int (pm_J i) :: .ref a :: st, pm_hp L Z W) = pm_D (m, pc + 1, ls, .ref (a + 55 + i.toNat) :: st, pm_hp L Z W) := pm_D_go (by
  obtain ⟨k1, k2, k3⟩ := pm_hk_hp (L := L) (Z := Z) (W := W) (a := a) (by omega)
  have hle := pm_ln_le a
  have e : pm_hr (pm_hp L Z W) a i.toNat = some (a + 55 + i.toNat) := by
    show pm_rf W a i.toNat = _
    unfold pm_rf
    rw [hk, if_neg (by decide), if_pos (by omega)]
    rfl
  rw [pm_st_of hc]
  show (if _ then _ else _) = _
  rw [if_pos ⟨k3, by rw [k1, hk]; decide, pm_J_nn h1 (by omega), by rw [pm_J_nat h1 (by omega), k2]; omega⟩, pm_J_nat h1 (by omega), e]
  rfl)
theorem pm_e_aastore {n v : Nat} {i : Int} (hc : pm_code m pc = some (.aastore, len, x, y, z, w)) (h1 : 0 ≤ i) (h2 : i < 20) (hv : pm_kd v = 7) : pm_D (m, pc, ls, .ref v :: .int (pm_J i) :: .ref 4 :: st, pm_hp L Z W) = pm_D (m, pc + 1, ls, st, pm_hp L Z (pm_upW W i.toNat v)) := pm_D_go (by
  have hk : pm_kd 4 = 15 := by decide +kernel
  have hn : pm_ln 4 = 20 := by decide +kernel
  obtain ⟨k1, k2, k3⟩ := pm_hk_hp (L := L) (Z := Z) (W := W) (a := 4) (by omega)
  obtain ⟨j1, j2, j3⟩ := pm_hk_hp (L := L) (Z := Z) (W := W) (a := v) (by omega)
  have e2 : (fun b => if b = 4 then va_up (pm_rf W 4) i.toNat (some v) else pm_rf W b) = pm_rf (pm_upW W i.toNat v) := by
    funext b q
    by_cases hb : b = 4
    · subst hb
      have e3 : ∀ W' : Nat → Nat, pm_rf W' 4 q = if q < 20 then some (W' q) else none := by
        intro W'
        unfold pm_rf
        rw [hk, hn]
        rfl
      rw [if_pos rfl, e3]
      unfold va_up pm_upW
      by_cases hq : q = i.toNat
      · subst hq
        rw [if_pos rfl, if_pos rfl, if_pos (by omega)]
      · rw [if_neg hq, if_neg hq, e3]
    · rw [if_neg hb]
      by_cases hb2 : pm_kd b = 15
      · have : b = 4 := by
          have hlt := pm_kd_lt (a := b) (by omega)
          exact (by decide +kernel : ∀ b, b < pm_NC → pm_kd b = 15 → b = 4) b hlt hb2
        exact absurd this hb
      · unfold pm_rf
        rw [if_neg hb2, if_neg hb2]
  have e : pm_setR (pm_hp L Z W) 4 i.toNat (some v) = pm_hp L Z (pm_upW W i.toNat v) := by
    unfold pm_hp
    rw [← e2]
    rfl
  rw [pm_st_of hc]
  show (if _ then _ else _) = _
  rw [if_pos ⟨k3, by rw [k1, hk]; decide, ⟨pm_J_nn h1 (by omega), by rw [pm_J_nat h1 (by omega), k2, hn]; omega⟩, j3, by rw [j1, hv, k1, hk]; rfl⟩, pm_J_nat h1 (by omega), e]
  rfl)
theorem pm_e_alen {a n : Nat} (hc : pm_code m pc = some (.arraylength, len, x, y, z, w)) (hk : 10 ≤ pm_kd a ∧ pm_kd a < 16) (hn : pm_ln a = n) : pm_D (m, pc, ls, .ref a :: st, pm_hp L Z W) = pm_D (m, pc + 1, ls, .int (pm_J n) :: st, pm_hp L Z W) := pm_D_go (by
  obtain ⟨k1, k2, k3⟩ := pm_hk_hp (L := L) (Z := Z) (W := W) (a := a) (by omega)
  rw [pm_st_of hc]
  show (if _ then _ else _) = _
  rw [if_pos ⟨by unfold pm_rdb; rw [decide_eq_true k3]; rfl, by rw [k1]; exact hk⟩, k2, hn, show pm_J (n : Int) = Int32.ofNat n from Int32.ofInt_eq_ofNat]
  rfl)
theorem pm_e_acopy {k s d ns nd : Nat} {n sp dp : Int} (hc : pm_code m pc = some (.invokestatic k, len, x, y, 4, w)) (hks : pm_kd s = 11) (hkd : pm_kd d = 11) (hns : pm_ln s = ns) (hnd : pm_ln d = nd) (h1 : 0 ≤ sp) (h2 : 0 ≤ dp) (h3 : 0 ≤ n) (h4 : sp + n ≤ ns) (h5 : dp + n ≤ nd) (hst : (st.map Value.category).sum ≤ 8) :
    pm_D (m, pc, ls, .int (pm_J n) :: .int (pm_J dp) :: .ref d :: .int (pm_J sp) :: .ref s :: st, pm_hp L Z W) = pm_D (m, pc + 3, ls, st, pm_hp L (pm_cpz Z s d sp.toNat dp.toNat n.toNat) W) := pm_D_go (by
  obtain ⟨k1, k2, k3⟩ := pm_hk_hp (L := L) (Z := Z) (W := W) (a := s) (by omega)
  obtain ⟨j1, j2, j3⟩ := pm_hk_hp (L := L) (Z := Z) (W := W) (a := d) (by omega)
  have l1 := pm_ln_le s
  have l2 := pm_ln_le d
  rw [pm_st_of hc, ← pm_cpy_hp]
  unfold pm_ins pm_acopy
  dsimp only
  rw [if_pos rfl, if_pos ⟨k3, j3, k1.trans hks, j1.trans hkd, pm_J_nn h1 (by omega), pm_J_nn h2 (by omega), pm_J_nn h3 (by omega), by rw [pm_J_nat h1 (by omega), pm_J_nat h3 (by omega), k2]; omega, by rw [pm_J_nat h2 (by omega), pm_J_nat h3 (by omega), j2]; omega, hst⟩, pm_J_nat h1 (by omega), pm_J_nat h2 (by omega), pm_J_nat h3 (by omega)]
  rfl)
theorem pm_e_mmax {k : Nat} {a b : Int} (hc : pm_code m pc = some (.invokestatic k, len, x, y, 5, w)) (h1 : -2147483648 ≤ a) (h2 : a < 2147483648) (h3 : -2147483648 ≤ b) (h4 : b < 2147483648) (hst : (st.map Value.category).sum ≤ 8) : pm_D (m, pc, ls, .int (pm_J b) :: .int (pm_J a) :: st, h) = pm_D (m, pc + 3, ls, .int (pm_J (if a < b then b else a)) :: st, h) := pm_D_go (by
  rw [pm_st_of hc]
  unfold pm_ins pm_mm
  dsimp only
  rw [if_neg (by decide), if_pos (Or.inl rfl), if_pos hst, if_pos rfl]
  by_cases hq : a < b
  · rw [if_pos hq, if_pos ((pm_J_lt h1 h2 h3 h4).mpr hq)]; rfl
  · rw [if_neg hq, if_neg (fun q => hq ((pm_J_lt h1 h2 h3 h4).mp q))]; rfl)
theorem pm_e_mmin {k : Nat} {a b : Int} (hc : pm_code m pc = some (.invokestatic k, len, x, y, 6, w)) (h1 : -2147483648 ≤ a) (h2 : a < 2147483648) (h3 : -2147483648 ≤ b) (h4 : b < 2147483648) (hst : (st.map Value.category).sum ≤ 8) : pm_D (m, pc, ls, .int (pm_J b) :: .int (pm_J a) :: st, h) = pm_D (m, pc + 3, ls, .int (pm_J (if b < a then b else a)) :: st, h) := pm_D_go (by
  rw [pm_st_of hc]
  unfold pm_ins pm_mm
  dsimp only
  rw [if_neg (by decide), if_pos (Or.inr rfl), if_pos hst, if_neg (by decide)]
  by_cases hq : b < a
  · rw [if_pos hq, if_pos ((pm_J_lt h3 h4 h1 h2).mpr hq)]; rfl
  · rw [if_neg hq, if_neg (fun q => hq ((pm_J_lt h3 h4 h1 h2).mp q))]; rfl)
theorem pm_e_iret {v : Int} (hc : pm_code m pc = some (.ireturn, len, 0, y, z, w)) : pm_D (m, pc, ls, [.int (pm_J v)], h) = some (some (.int (pm_J v)), h) := pm_D_ret (by rw [pm_st_of hc]; unfold pm_ins pm_iret; dsimp only; rw [if_pos (Or.inl rfl)])
theorem pm_e_zret {v : Int} (hc : pm_code m pc = some (.ireturn, len, 1, y, z, w)) (h1 : 0 ≤ v) (h2 : v ≤ 1) : pm_D (m, pc, ls, [.int (pm_J v)], h) = some (some (.int (pm_J v)), h) := pm_D_ret (by
  have hv : pm_J v = 0 ∨ pm_J v = 1 := by
    rcases (show v = 0 ∨ v = 1 by omega) with rfl | rfl
    · exact Or.inl rfl
    · exact Or.inr rfl
  rw [pm_st_of hc]; unfold pm_ins pm_iret; dsimp only; rw [if_pos (Or.inr hv)])
theorem pm_e_vret (hc : pm_code m pc = some (.return_, len, x, y, z, w)) : pm_D (m, pc, ls, [], h) = some (none, h) := pm_D_ret (by rw [pm_st_of hc]; rfl)
/-- a call: as the arguments, rest the stack below them -/
theorem pm_e_call {zz k : Nat} {as rest : List Value} {s1 : List Value} (hc : (zz = 0 ∧ pm_code m pc = some (.invokevirtual k, len, x, y, z, w)) ∨ (zz = 1 ∧ z = 1 ∧ pm_code m pc = some (.invokestatic k, len, x, y, z, w))) (hy : as.length = y) (hcat : (as.all fun v => v.category == 1) = true) (hrec : pm_recv x zz as.reverse h = true) (hrest : (rest.map Value.category).sum ≤ 8) (hs1 : as.reverse ++ List.replicate (pm_ml x - y) Value.null = s1) (hst : st = as ++ rest) :
    pm_D (m, pc, ls, st, h) = (pm_D (x, 0, s1, [], h)).bind fun r => pm_D (m, pc + 3, ls, r.1.toList ++ rest, r.2) := by
  subst hst hs1
  have ht : (as ++ rest).take y = as := by rw [← hy]; simp
  have hd : (as ++ rest).drop y = rest := by rw [← hy]; simp
  have key : pm_call x y zz m (pc + 3) ls (as ++ rest) h = some (.inr (.inr ((x, 0, as.reverse ++ List.replicate (pm_ml x - y) Value.null, [], h), (m, pc + 3, ls, rest)))) := by
    unfold pm_call
    rw [ht, hd, if_pos ⟨by rw [List.length_append]; omega, hcat, hrec, hrest⟩]
  rcases hc with ⟨rfl, hc⟩ | ⟨rfl, rfl, hc⟩
  · exact pm_D_call (by rw [pm_st_of hc]; exact key)
  · refine pm_D_call (fr := (m, pc + 3, ls, rest)) ?_
    rw [pm_st_of hc]
    unfold pm_ins
    dsimp only
    rw [if_neg (by decide), if_neg (by decide)]
    exact key
theorem pm_recv_hp {a : Nat} {as : List Value} (hk : pm_kd a = pm_mk x) (hx : pm_mk x < 10) : pm_recv x 0 (.ref a :: as) (pm_hp L Z W) = true := by
  obtain ⟨k1, k2, k3⟩ := pm_hk_hp (L := L) (Z := Z) (W := W) (a := a) (by omega)
  show (decide _ && decide _) = true
  rw [decide_eq_true k3, decide_eq_true (k1.trans hk)]
  rfl
end PE
