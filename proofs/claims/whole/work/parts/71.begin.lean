/-! the heap behind the constructors -/
def ct_q : List ct_E → List (Nat × Nat × Nat)
  | [] => []
  | .inr (.inr e) :: l => e :: ct_q l
  | _ :: l => ct_q l
def ct_lit : List (Nat × Nat × Nat) := [(190, 31, 211), (190, 30, 210), (190, 28, 209), (190, 26, 208), (190, 25, 207), (190, 24, 206), (190, 23, 205), (190, 21, 204), (190, 19, 203), (190, 18, 202), (190, 17, 201), (190, 16, 200), (190, 14, 199), (190, 12, 198), (190, 11, 197), (190, 10, 196), (190, 8, 195), (190, 7, 194), (190, 6, 193), (190, 4, 192), (190, 3, 191), (0, 4, 118), (128, 6, 189), (128, 5, 188), (128, 4, 187), (128, 3, 186), (128, 2, 185), (128, 1, 184), (128, 0, 183), (127, 9, 178), (178, 14, 182), (178, 13, 181), (178, 12, 180), (178, 11, 179), (127, 8, 173), (173, 14, 177), (173, 13, 176), (173, 12, 175), (173, 11, 174), (127, 7, 168), (168, 14, 172), (168, 13, 171), (168, 12, 170), (168, 11, 169), (127, 6, 163), (163, 14, 167), (163, 13, 166), (163, 12, 165), (163, 11, 164), (127, 5, 158), (158, 14, 162), (158, 13, 161), (158, 12, 160), (158, 11, 159), (127, 4, 153), (153, 14, 157), (153, 13, 156), (153, 12, 155), (153, 11, 154), (127, 3, 148), (148, 14, 152), (148, 13, 151), (148, 12, 150), (148, 11, 149), (127, 2, 143), (143, 14, 147), (143, 13, 146), (143, 12, 145), (143, 11, 144), (127, 1, 138), (138, 14, 142), (138, 13, 141), (138, 12, 140), (138, 11, 139), (127, 0, 133), (133, 14, 137), (133, 13, 136), (133, 12, 135), (133, 11, 134), (118, 10, 132), (118, 9, 131), (118, 8, 130), (118, 7, 129), (118, 6, 128), (118, 5, 127), (118, 1, 123), (123, 2, 126), (123, 1, 125), (123, 0, 124), (118, 0, 119), (119, 4, 122), (119, 3, 121), (119, 2, 120), (0, 3, 46), (56, 6, 117), (56, 5, 116), (56, 4, 115), (56, 3, 114), (56, 2, 113), (56, 1, 112), (56, 0, 111), (55, 9, 106), (106, 14, 110), (106, 13, 109), (106, 12, 108), (106, 11, 107), (55, 8, 101), (101, 14, 105), (101, 13, 104), (101, 12, 103), (101, 11, 102), (55, 7, 96), (96, 14, 100), (96, 13, 99), (96, 12, 98), (96, 11, 97), (55, 6, 91), (91, 14, 95), (91, 13, 94), (91, 12, 93), (91, 11, 92), (55, 5, 86), (86, 14, 90), (86, 13, 89), (86, 12, 88), (86, 11, 87), (55, 4, 81), (81, 14, 85), (81, 13, 84), (81, 12, 83), (81, 11, 82), (55, 3, 76), (76, 14, 80), (76, 13, 79), (76, 12, 78), (76, 11, 77), (55, 2, 71), (71, 14, 75), (71, 13, 74), (71, 12, 73), (71, 11, 72), (55, 1, 66), (66, 14, 70), (66, 13, 69), (66, 12, 68), (66, 11, 67), (55, 0, 61), (61, 14, 65), (61, 13, 64), (61, 12, 63), (61, 11, 62), (46, 10, 60), (46, 9, 59), (46, 8, 58), (46, 7, 57), (46, 6, 56), (46, 5, 55), (46, 1, 51), (51, 2, 54), (51, 1, 53), (51, 0, 52), (46, 0, 47), (47, 4, 50), (47, 3, 49), (47, 2, 48), (0, 2, 45), (0, 1, 3), (4, 19, 43), (43, 0, 44), (4, 18, 41), (41, 0, 42), (4, 17, 39), (39, 0, 40), (4, 16, 37), (37, 0, 38), (4, 15, 35), (35, 0, 36), (4, 14, 33), (33, 0, 34), (4, 13, 31), (31, 0, 32), (4, 12, 29), (29, 0, 30), (4, 11, 27), (27, 0, 28), (4, 10, 25), (25, 0, 26), (4, 9, 23), (23, 0, 24), (4, 8, 21), (21, 0, 22), (4, 7, 19), (19, 0, 20), (4, 6, 17), (17, 0, 18), (4, 5, 15), (15, 0, 16), (4, 4, 13), (13, 0, 14), (4, 3, 11), (11, 0, 12), (4, 2, 9), (9, 0, 10), (4, 1, 7), (7, 0, 8), (4, 0, 5), (5, 0, 6), (3, 0, 4), (0, 0, 1), (1, 0, 2)]
theorem ct_q2 : ct_q ct_2 = ct_lit := by decide +kernel
def ct_lk : List (Nat × Nat × Nat) → Nat → Nat → Option Nat
  | [], _, _ => none
  | (a', j', b) :: l, a, j => if a = a' ∧ j = j' then some b else ct_lk l a j
/-- a reference is set in a cell that is there -/
def ct_v : List ct_E → Bool
  | [] => true
  | .inr (.inr (a, _, _)) :: l => decide (a < ct_n l) && ct_v l
  | _ :: l => ct_v l
theorem ct_v2 : ct_v ct_2 = true := by decide +kernel
theorem ct_v_none : ∀ (l : List ct_E) (a j : Nat), ct_v l = true → ct_n l ≤ a → ct_lk (ct_q l) a j = none
  | [], _, _, _, _ => rfl
  | .inl q :: l, a, j, h, c => ct_v_none l a j h (Nat.le_of_succ_le c)
  | .inr (.inl q) :: l, a, j, h, c => ct_v_none l a j h c
  | .inr (.inr (a', j', b)) :: l, a, j, h, c => by
    have h1 := Bool.and_eq_true_iff.mp h
    have h2 : a' < ct_n l := of_decide_eq_true h1.1
    have c' : ct_n l ≤ a := c
    show (if a = a' ∧ j = j' then some b else ct_lk (ct_q l) a j) = none
    rw [if_neg (by omega)]
    exact ct_v_none l a j h1.2 c'
theorem ct_r_lk : ∀ (l : List ct_E) (a j : Nat), ct_v l = true → ct_r l a j = ct_lk (ct_q l) a j
  | [], _, _, _ => rfl
  | .inl q :: l, a, j, h => by
    show (if a = ct_n l then none else ct_r l a j) = ct_lk (ct_q l) a j
    by_cases c : a = ct_n l
    · rw [if_pos c, ct_v_none l a j h (by omega)]
    · rw [if_neg c, ct_r_lk l a j h]
  | .inr (.inl q) :: l, a, j, h => ct_r_lk l a j h
  | .inr (.inr (a', j', b)) :: l, a, j, h => by
    have h1 := Bool.and_eq_true_iff.mp h
    show (if a = a' ∧ j = j' then some b else ct_r l a j) = if a = a' ∧ j = j' then some b else ct_lk (ct_q l) a j
    rw [ct_r_lk l a j h1.2]
def ct_row : List (Nat × Nat × Nat) → Nat → List (Nat × Nat)
  | [], _ => []
  | (a', e) :: l, a => if a = a' then e :: ct_row l a else ct_row l a
def ct_lk1 : List (Nat × Nat) → Nat → Option Nat
  | [], _ => none
  | (j', b) :: l, j => if j = j' then some b else ct_lk1 l j
theorem ct_lk_row : ∀ (l : List (Nat × Nat × Nat)) (a j : Nat), ct_lk l a j = ct_lk1 (ct_row l a) j
  | [], _, _ => rfl
  | (a', j', b) :: l, a, j => by
    show (if a = a' ∧ j = j' then some b else ct_lk l a j) = ct_lk1 (if a = a' then (j', b) :: ct_row l a else ct_row l a) j
    by_cases c : a = a'
    · rw [if_pos c]
      show _ = if j = j' then some b else ct_lk1 (ct_row l a) j
      by_cases c2 : j = j'
      · rw [if_pos ⟨c, c2⟩, if_pos c2]
      · rw [if_neg (fun q => c2 q.2), if_neg c2, ct_lk_row l a j]
    · rw [if_neg c, if_neg (fun q => c q.1), ct_lk_row l a j]
def ct_rows : List (List (Nat × Nat)) := [[(4, 118), (3, 46), (2, 45), (1, 3), (0, 1)], [(0, 2)], [], [(0, 4)], [(19, 43), (18, 41), (17, 39), (16, 37), (15, 35), (14, 33), (13, 31), (12, 29), (11, 27), (10, 25), (9, 23), (8, 21), (7, 19), (6, 17), (5, 15), (4, 13), (3, 11), (2, 9), (1, 7), (0, 5)], [(0, 6)], [], [(0, 8)], [], [(0, 10)], [], [(0, 12)], [], [(0, 14)], [], [(0, 16)], [], [(0, 18)], [], [(0, 20)], [], [(0, 22)], [], [(0, 24)], [], [(0, 26)], [], [(0, 28)], [], [(0, 30)], [], [(0, 32)], [], [(0, 34)], [], [(0, 36)], [], [(0, 38)], [], [(0, 40)], [], [(0, 42)], [], [(0, 44)], [], [], [(10, 60), (9, 59), (8, 58), (7, 57), (6, 56), (5, 55), (1, 51), (0, 47)], [(4, 50), (3, 49), (2, 48)], [], [], [], [(2, 54), (1, 53), (0, 52)], [], [], [], [(9, 106), (8, 101), (7, 96), (6, 91), (5, 86), (4, 81), (3, 76), (2, 71), (1, 66), (0, 61)], [(6, 117), (5, 116), (4, 115), (3, 114), (2, 113), (1, 112), (0, 111)], [], [], [], [], [(14, 65), (13, 64), (12, 63), (11, 62)], [], [], [], [], [(14, 70), (13, 69), (12, 68), (11, 67)], [], [], [], [], [(14, 75), (13, 74), (12, 73), (11, 72)], [], [], [], [], [(14, 80), (13, 79), (12, 78), (11, 77)], [], [], [], [], [(14, 85), (13, 84), (12, 83), (11, 82)], [], [], [], [], [(14, 90), (13, 89), (12, 88), (11, 87)], [], [], [], [], [(14, 95), (13, 94), (12, 93), (11, 92)], [], [], [], [], [(14, 100), (13, 99), (12, 98), (11, 97)], [], [], [], [], [(14, 105), (13, 104), (12, 103), (11, 102)], [], [], [], [], [(14, 110), (13, 109), (12, 108), (11, 107)], [], [], [], [], [], [], [], [], [], [], [], [(10, 132), (9, 131), (8, 130), (7, 129), (6, 128), (5, 127), (1, 123), (0, 119)], [(4, 122), (3, 121), (2, 120)], [], [], [], [(2, 126), (1, 125), (0, 124)], [], [], [], [(9, 178), (8, 173), (7, 168), (6, 163), (5, 158), (4, 153), (3, 148), (2, 143), (1, 138), (0, 133)], [(6, 189), (5, 188), (4, 187), (3, 186), (2, 185), (1, 184), (0, 183)], [], [], [], [], [(14, 137), (13, 136), (12, 135), (11, 134)], [], [], [], [], [(14, 142), (13, 141), (12, 140), (11, 139)], [], [], [], [], [(14, 147), (13, 146), (12, 145), (11, 144)], [], [], [], [], [(14, 152), (13, 151), (12, 150), (11, 149)], [], [], [], [], [(14, 157), (13, 156), (12, 155), (11, 154)], [], [], [], [], [(14, 162), (13, 161), (12, 160), (11, 159)], [], [], [], [], [(14, 167), (13, 166), (12, 165), (11, 164)], [], [], [], [], [(14, 172), (13, 171), (12, 170), (11, 169)], [], [], [], [], [(14, 177), (13, 176), (12, 175), (11, 174)], [], [], [], [], [(14, 182), (13, 181), (12, 180), (11, 179)], [], [], [], [], [], [], [], [], [], [], [], [(31, 211), (30, 210), (28, 209), (26, 208), (25, 207), (24, 206), (23, 205), (21, 204), (19, 203), (18, 202), (17, 201), (16, 200), (14, 199), (12, 198), (11, 197), (10, 196), (8, 195), (7, 194), (6, 193), (4, 192), (3, 191)], [], [], [], [], [], [], [], [], [], [], [], [], [], [], [], [], [], [], [], [], []]
def ct_rw : Nat → List (List (Nat × Nat)) → Bool
  | _, [] => true
  | a, r :: rs => decide (ct_row ct_lit a = r) && ct_rw (a + 1) rs
theorem ct_rw_ok : ∀ (rs : List (List (Nat × Nat))) (a i : Nat), ct_rw a rs = true → i < rs.length → ct_row ct_lit (a + i) = rs.getD i []
  | [], _, _, _, h => by cases h
  | r :: rs, a, 0, h, _ => of_decide_eq_true (Bool.and_eq_true_iff.mp h).1
  | r :: rs, a, i + 1, h, hi => by
    have := ct_rw_ok rs (a + 1) i (Bool.and_eq_true_iff.mp h).2 (Nat.lt_of_succ_lt_succ hi)
    rw [show a + (i + 1) = a + 1 + i by omega]
    exact this
theorem ct_rw2 : ct_rw 0 ct_rows = true := by decide +kernel
def ct_rf (k n a j : Nat) : Option Nat :=
  if k < 10 then (if j < pm_N k ∧ pm_fz k j = 1 then some (a + pm_dl k j) else none)
  else if j < n then (if k = 15 then some (ct_W j) else if k = 14 then some (a + 6 + 5 * j) else if k = 13 then some (a + 55 + j) else none) else none
def ct_al (r : List (Nat × Nat)) (k n a : Nat) : Nat → Bool
  | 0 => true
  | j + 1 => decide (ct_lk1 r j = ct_rf k n a j) && ct_al r k n a j
theorem ct_al_ok {r : List (Nat × Nat)} {k n a : Nat} : ∀ (J j : Nat), ct_al r k n a J = true → j < J → ct_lk1 r j = ct_rf k n a j
  | 0, _, _, h => by cases h
  | J + 1, j, h, hj => by
    have h' := Bool.and_eq_true_iff.mp h
    by_cases c : j = J
    · subst c
      exact of_decide_eq_true h'.1
    · exact ct_al_ok J j h'.2 (by omega)
def ct_ch : Nat → List (Nat × Nat) → List (List (Nat × Nat)) → Bool
  | a, (k, n) :: ks, r :: rs => ct_al r k n a 32 && ct_ch (a + 1) ks rs
  | _, _, _ => true
theorem ct_ch_ok : ∀ (ks : List (Nat × Nat)) (rs : List (List (Nat × Nat))) (a i j : Nat), ct_ch a ks rs = true → i < ks.length → i < rs.length → j < 32 → ct_lk1 (rs.getD i []) j = ct_rf (ks.getD i (99, 0)).1 (ks.getD i (99, 0)).2 (a + i) j
  | [], _, _, _, _, _, h, _, _ => by cases h
  | _ :: _, [], _, _, _, _, _, h, _ => by cases h
  | (k, n) :: ks, r :: rs, a, 0, j, h, _, _, hj => ct_al_ok 32 j (Bool.and_eq_true_iff.mp h).1 hj
  | (k, n) :: ks, r :: rs, a, i + 1, j, h, h1, h2, hj => by
    have := ct_ch_ok ks rs (a + 1) i j (Bool.and_eq_true_iff.mp h).2 (Nat.lt_of_succ_lt_succ h1) (Nat.lt_of_succ_lt_succ h2) hj
    rw [show a + (i + 1) = a + 1 + i by omega]
    exact this
theorem ct_ch2 : ct_ch 0 pm_cl ct_rows = true := by decide +kernel
theorem ct_len : pm_cl.length = 212 ∧ ct_rows.length = 212 := by decide +kernel
theorem ct_c8 (a : Nat) (ha : a < 212) (j : Nat) (hj : j < 32) : ct_lk ct_lit a j = pm_rf ct_W a j := by
  have h1 := ct_rw_ok ct_rows 0 a ct_rw2 (by rw [ct_len.2]; exact ha)
  have h2 := ct_ch_ok pm_cl ct_rows 0 a j ct_ch2 (by rw [ct_len.1]; exact ha) (by rw [ct_len.2]; exact ha) hj
  rw [Nat.zero_add] at h1 h2
  rw [ct_lk_row, h1, h2]
  rfl
theorem ct_refs (a j : Nat) : ct_r ct_2 a j = pm_rf ct_W a j := by
  by_cases c : a < 212 ∧ j < 32
  · rw [ct_r_lk ct_2 a j ct_v2, ct_q2]
    exact ct_c8 a c.1 j c.2
  · rw [ct_b_ok ct_2 a j ct_c5 (by omega)]
    unfold pm_rf
    by_cases ha : a < 212
    · have hj : ¬ j < 32 := fun q => c ⟨ha, q⟩
      by_cases k10 : pm_kd a < 10
      · rw [if_pos k10]
        have := ct_c6 a ha
        rw [if_neg (fun q => by have := q.1; omega)]
      · rw [if_neg k10]
        by_cases hl : j < pm_ln a
        · have := ct_c7 a ha
          rw [if_pos hl, if_neg (by omega), if_neg (by omega), if_neg (by omega)]
        · rw [if_neg hl]
    · have e : pm_cl.getD a (99, 0) = (99, 0) := by
        rw [List.getD_eq_getElem?_getD, List.getElem?_eq_none (by
          have : pm_cl.length = 212 := by decide +kernel
          omega)]
        rfl
      have k1 : pm_kd a = 99 := by unfold pm_kd; rw [e]
      have k2 : pm_ln a = 0 := by unfold pm_ln; rw [e]
      rw [k1, k2, if_neg (by decide), if_neg (by omega)]
theorem ct_k_out : ∀ (l : List ct_E) (a : Nat), ct_n l ≤ a → ct_k l a = (0, 0)
  | [], _, _ => rfl
  | .inl q :: l, a, h => by
    have h' : ct_n l + 1 ≤ a := h
    show (if a = ct_n l then q else ct_k l a) = (0, 0)
    rw [if_neg (by omega), ct_k_out l a (by omega)]
  | .inr q :: l, a, h => ct_k_out l a h
def ct_Z (L : Nat) (xs : Nat → Int32) : Nat → Nat → Int := fun a j => ((ct_ap (pm_h0 L xs) ct_2).2.2.2.1 a j).toInt
theorem ct_heap (L : Nat) (xs : Nat → Int32) : ct_ap (pm_h0 L xs) ct_2 = pm_hp L (ct_Z L xs) ct_W := by
  obtain ⟨c1, c2, c3, c4⟩ := ct_c3
  have e1 : (ct_ap (pm_h0 L xs) ct_2).1 = pm_NC := by rw [ct_n_ok, c2]; rfl
  have e2 : (ct_ap (pm_h0 L xs) ct_2).2.1 = pm_SC := by rw [ct_s_ok, c3]; rfl
  have e3 : (ct_ap (pm_h0 L xs) ct_2).2.2.1 = (fun a => if a = pm_scr then (11, L) else if a < pm_NC then pm_cl.getD a (99, 0) else (0, 0)) := by
    funext a
    by_cases ha : a = pm_scr
    · rw [if_pos ha, ha]
      exact (ct_scr L xs ct_2 c4).2
    · rw [if_neg ha, ct_k_ok L xs ct_2 a ha]
      by_cases h : a < pm_NC
      · rw [if_pos h]
        exact ct_c4 a h
      · rw [if_neg h]
        exact ct_k_out ct_2 a (by rw [c2]; exact Nat.le_of_not_lt h)
  have e4 : (ct_ap (pm_h0 L xs) ct_2).2.2.2.1 = (fun a j => pm_J (ct_Z L xs a j)) := by
    funext a j
    exact (pm_J_toInt _).symm
  have e5 : (ct_ap (pm_h0 L xs) ct_2).2.2.2.2 = pm_rf ct_W := by
    funext a j
    rw [ct_r_ok L xs ct_2 a j]
    exact ct_refs a j
  have e : ∀ p : pm_H, p = (p.1, p.2.1, p.2.2.1, p.2.2.2.1, p.2.2.2.2) := fun _ => rfl
  rw [e (ct_ap (pm_h0 L xs) ct_2), e1, e2, e3, e4, e5]
  rfl
/-- the ints that are set -/
def ct_p : List ct_E → List (Nat × Nat × Int32)
  | [] => []
  | .inr (.inl e) :: l => e :: ct_p l
  | _ :: l => ct_p l
theorem ct_p2 : ct_p ct_2 = [(190, 2, 1000), (190, 1, 1000), (190, 0, 4), (190, 29, -1), (118, 2, 4), (119, 1, 1000), (119, 0, 1000), (46, 2, 4), (47, 1, 1000), (47, 0, 1000)] := by decide +kernel
def ct_li : List (Nat × Nat × Int32) → Nat → Nat → Int32
  | [], _, _ => 0
  | (a', j', v) :: l, a, j => if a = a' ∧ j = j' then v else ct_li l a j
def ct_vi : List ct_E → Bool
  | [] => true
  | .inr (.inl (a, _, _)) :: l => decide (a < ct_n l) && ct_vi l
  | _ :: l => ct_vi l
theorem ct_vi2 : ct_vi ct_2 = true := by decide +kernel
theorem ct_vi_none : ∀ (l : List ct_E) (a j : Nat), ct_vi l = true → ct_n l ≤ a → ct_li (ct_p l) a j = 0
  | [], _, _, _, _ => rfl
  | .inl q :: l, a, j, h, c => ct_vi_none l a j h (Nat.le_of_succ_le c)
  | .inr (.inr q) :: l, a, j, h, c => ct_vi_none l a j h c
  | .inr (.inl (a', j', b)) :: l, a, j, h, c => by
    have h1 := Bool.and_eq_true_iff.mp h
    have h2 : a' < ct_n l := of_decide_eq_true h1.1
    have c' : ct_n l ≤ a := c
    show (if a = a' ∧ j = j' then b else ct_li (ct_p l) a j) = 0
    rw [if_neg (by omega)]
    exact ct_vi_none l a j h1.2 c'
theorem ct_i_li : ∀ (l : List ct_E) (a j : Nat), ct_vi l = true → ct_i l a j = ct_li (ct_p l) a j
  | [], _, _, _ => rfl
  | .inl q :: l, a, j, h => by
    show (if a = ct_n l then 0 else ct_i l a j) = ct_li (ct_p l) a j
    by_cases c : a = ct_n l
    · rw [if_pos c, ct_vi_none l a j h (by omega)]
    · rw [if_neg c, ct_i_li l a j h]
  | .inr (.inr q) :: l, a, j, h => ct_i_li l a j h
  | .inr (.inl (a', j', b)) :: l, a, j, h => by
    have h1 := Bool.and_eq_true_iff.mp h
    show (if a = a' ∧ j = j' then b else ct_i l a j) = if a = a' ∧ j = j' then b else ct_li (ct_p l) a j
    rw [ct_i_li l a j h1.2]
theorem ct_Z_eq (L : Nat) (xs : Nat → Int32) (a j : Nat) (ha : a ≠ pm_scr) : ct_Z L xs a j = (ct_li [(190, 2, 1000), (190, 1, 1000), (190, 0, 4), (190, 29, -1), (118, 2, 4), (119, 1, 1000), (119, 0, 1000), (46, 2, 4), (47, 1, 1000), (47, 0, 1000)] a j).toInt := by
  unfold ct_Z
  rw [ct_i_ok L xs ct_2 a j ha, ct_i_li ct_2 a j ct_vi2, ct_p2]
theorem ct_Z_0 (L : Nat) (xs : Nat → Int32) (a j : Nat) (ha : a < 212) (h1 : ¬ (a = 190 ∧ (j = 0 ∨ j = 1 ∨ j = 2 ∨ j = 29))) (h2 : ¬ (a = 118 ∧ j = 2)) (h3 : ¬ (a = 119 ∧ j < 2)) (h4 : ¬ (a = 46 ∧ j = 2)) (h5 : ¬ (a = 47 ∧ j < 2)) : ct_Z L xs a j = 0 := by
  rw [ct_Z_eq L xs a j (by unfold pm_scr; omega)]
  simp only [ct_li]
  rw [if_neg (by omega), if_neg (by omega), if_neg (by omega), if_neg (by omega), if_neg (by omega), if_neg (by omega), if_neg (by omega), if_neg (by omega), if_neg (by omega), if_neg (by omega)]
  rfl
theorem ct_inv (L : Nat) (xs : Nat → Int32) : Inv 0 (ct_Z L xs) ct_W := by
  have hs : pm_scr = 1000000 := rfl
  have z0 := fun a j h h1 h2 h3 h4 h5 => ct_Z_0 L xs a j h h1 h2 h3 h4 h5
  have e1 : ct_Z L xs 190 0 = 4 := by rw [ct_Z_eq L xs 190 0 (by omega)]; decide
  have e2 : ct_Z L xs 190 1 = 1000 := by rw [ct_Z_eq L xs 190 1 (by omega)]; decide
  have e3 : ct_Z L xs 190 2 = 1000 := by rw [ct_Z_eq L xs 190 2 (by omega)]; decide
  have e4 : ct_Z L xs 190 29 = -1 := by rw [ct_Z_eq L xs 190 29 (by omega)]; decide
  have e5 : ct_Z L xs 46 2 = 4 := by rw [ct_Z_eq L xs 46 2 (by omega)]; decide
  have e6 : ct_Z L xs 47 0 = 1000 := by rw [ct_Z_eq L xs 47 0 (by omega)]; decide
  have e7 : ct_Z L xs 47 1 = 1000 := by rw [ct_Z_eq L xs 47 1 (by omega)]; decide
  have f : ∀ j, j ≠ 0 → j ≠ 1 → j ≠ 2 → j ≠ 29 → ct_Z L xs 190 j = 0 := fun j h1 h2 h3 h4 => z0 190 j (by omega) (by omega) (by omega) (by omega) (by omega) (by omega)
  have g : ∀ q, ct_Z L xs 191 q = 0 := fun q => z0 191 q (by omega) (by omega) (by omega) (by omega) (by omega) (by omega)
  have f5 := f 5 (by omega) (by omega) (by omega) (by omega)
  have f9 := f 9 (by omega) (by omega) (by omega) (by omega)
  have f13 := f 13 (by omega) (by omega) (by omega) (by omega)
  have f15 := f 15 (by omega) (by omega) (by omega) (by omega)
  have f22 := f 22 (by omega) (by omega) (by omega) (by omega)
  have h3 := z0 46 3 (by omega) (by omega) (by omega) (by omega) (by omega) (by omega)
  have h4 := z0 46 4 (by omega) (by omega) (by omega) (by omega) (by omega) (by omega)
  have h11 := z0 46 11 (by omega) (by omega) (by omega) (by omega) (by omega) (by omega)
  have w5 := z0 47 5 (by omega) (by omega) (by omega) (by omega) (by omega) (by omega)
  have q3 := z0 51 3 (by omega) (by omega) (by omega) (by omega) (by omega) (by omega)
  have t1 := z0 1 1 (by omega) (by omega) (by omega) (by omega) (by omega) (by omega)
  have b1 := z0 3 1 (by omega) (by omega) (by omega) (by omega) (by omega) (by omega)
  generalize ct_Z L xs = Z at *
  refine ⟨⟨?_, ?_, ?_, ?_, ?_, ?_, ?_, ?_⟩, ?_, ?_, e4⟩
  · unfold lr_a
    rw [e1, e5, h3, g, h4, f22, h11]
    omega
  · refine ⟨⟨e6.trans e2.symm, e7.trans e3.symm, by omega, by omega, by omega, by omega⟩, ⟨w5.trans f5.symm, by omega, by omega⟩, fun i hi => ?_⟩
    rw [f5] at hi
    omega
  · refine ⟨⟨q3.trans f9.symm, by omega, by omega⟩, fun i hi => ?_⟩
    rw [f9] at hi
    omega
  · intro i hi
    rw [f22] at hi
    omega
  · intro i h1 h2
    exact ⟨g _, g _, fun t ht => ⟨g _, g _, g _⟩⟩
  · intro l k hl hk
    rw [g, z0 _ _ (by omega) (by omega) (by omega) (by omega) (by omega) (by omega)]
    omega
  · intro t ht ht'
    rw [g, z0 _ _ (by omega) (by omega) (by omega) (by omega) (by omega) (by omega)]
    omega
  · intro h
    rw [h11] at h
    omega
  · refine ⟨t1.trans f13.symm, by omega, by omega, fun i hi => ?_⟩
    rw [f13] at hi
    omega
  · refine ⟨⟨b1.trans f15.symm, by omega, by omega⟩, fun i hi => ⟨i, hi, rfl⟩, fun i j _ _ h => ?_, fun w hw => ?_, fun w v hw => ?_, fun i hi => ?_, fun w hw => ?_, fun i j w hi => ?_⟩
    · have : 5 + 2 * i = 5 + 2 * j := h
      omega
    · rw [f15] at hw; omega
    · rw [f15] at hw; omega
    · rw [f15] at hi; omega
    · rw [f15] at hw; omega
    · rw [f15] at hi; omega

/-- what is left is the single calls -/
theorem pm_claim_of (H : Ops) : pm_claim := by
  intro L xs hL
  obtain ⟨c1, c2, c3, c4⟩ := ct_c3
  have hs : pm_scr = 1000000 := rfl
  have x1 : ct_x 5000 (74, 0, [.ref 0], [], [.inl (8, 5)]) = some ct_1 := by
    have := ct_c1
    unfold ct_1
    cases h : ct_x 5000 (74, 0, [.ref 0], [], [.inl (8, 5)]) with
    | none => rw [h] at this; cases this
    | some l => rfl
  have x2 : ct_x 5000 (105, 0, [.ref 190], [], .inl (9, 32) :: ct_1) = some ct_2 := by
    have := ct_c2
    unfold ct_2
    cases h : ct_x 5000 (105, 0, [.ref 190], [], .inl (9, 32) :: ct_1) with
    | none => rw [h] at this; cases this
    | some l => rfl
  have d1 := ct_sound L xs 5000 _ _ x1
  have d2 := ct_sound L xs 5000 _ _ x2
  have n1 : (ct_ap (pm_h0 L xs) ct_1).1 = 190 := by rw [ct_n_ok, c1]
  have t0 : pm_D (171, 0, [.ref pm_scr, .null, .null, .null], [], pm_h0 L xs) = pm_D (171, 3, [.ref pm_scr, .null, .null, .null], [.ref 0], ct_ap (pm_h0 L xs) [.inl (8, 5)]) := pm_D_go (by
    rw [pm_st_of (show pm_code 171 0 = some (.new 7, 3, 8, 0, 0, 1013) from by decide +kernel)]
    exact ct_st_ok L xs (l := []) (r := .inr (.inl (171, 3, [.ref pm_scr, .null, .null, .null], [.ref 0], [.inl (8, 5)]))) rfl)
  have t3 : pm_D (171, 3, [.ref pm_scr, .null, .null, .null], [.ref 0], ct_ap (pm_h0 L xs) [.inl (8, 5)]) = pm_D (171, 4, [.ref pm_scr, .null, .null, .null], [.ref 0, .ref 0], ct_ap (pm_h0 L xs) [.inl (8, 5)]) := pm_D_go (by
    rw [pm_st_of (show pm_code 171 3 = some (.dup, 1, 0, 0, 0, 0) from by decide +kernel)]
    rfl)
  have t4 : pm_D (171, 4, [.ref pm_scr, .null, .null, .null], [.ref 0, .ref 0], ct_ap (pm_h0 L xs) [.inl (8, 5)]) = pm_D (171, 7, [.ref pm_scr, .null, .null, .null], [.ref 0], ct_ap (pm_h0 L xs) ct_1) := by
    rw [pm_D_call (s1 := (74, 0, [.ref 0], [], ct_ap (pm_h0 L xs) [.inl (8, 5)])) (fr := (171, 7, [.ref pm_scr, .null, .null, .null], [.ref 0])) (by
      rw [pm_st_of (show pm_code 171 4 = some (.invokespecial 9, 3, 74, 1, 2, 1015) from by decide +kernel)]
      exact ct_st_ok L xs (l := [.inl (8, 5)]) (r := .inr (.inr ((74, 0, [.ref 0], [], [.inl (8, 5)]), (171, 7, [.ref pm_scr, .null, .null, .null], [.ref 0])))) rfl), d1]
    generalize ct_ap (pm_h0 L xs) ct_1 = hh
    rfl
  have t7 : pm_D (171, 7, [.ref pm_scr, .null, .null, .null], [.ref 0], ct_ap (pm_h0 L xs) ct_1) = pm_D (171, 8, [.ref pm_scr, .ref 0, .null, .null], [], ct_ap (pm_h0 L xs) ct_1) := pm_e_astore_n (show pm_code 171 7 = some (.astore_n 1, 1, 0, 0, 0, 0) from by decide +kernel) (by decide)
  have t8 : pm_D (171, 8, [.ref pm_scr, .ref 0, .null, .null], [], ct_ap (pm_h0 L xs) ct_1) = pm_D (171, 11, [.ref pm_scr, .ref 0, .null, .null], [.ref 190], ct_ap (pm_h0 L xs) (.inl (9, 32) :: ct_1)) := pm_D_go (by
    rw [pm_st_of (show pm_code 171 8 = some (.new 10, 3, 9, 0, 0, 3220) from by decide +kernel)]
    exact ct_st_ok L xs (l := ct_1) (r := .inr (.inl (171, 11, [.ref pm_scr, .ref 0, .null, .null], [.ref 190], .inl (9, 32) :: ct_1))) (by
      show (if ct_n ct_1 < pm_scr then ct_go 171 (8 + 3) [.ref pm_scr, .ref 0, .null, .null] (.ref (ct_n ct_1) :: []) (.inl (9, pm_N 9) :: ct_1) else none) = _
      rw [c1, if_pos (by decide)]
      rfl))
  have t11 : pm_D (171, 11, [.ref pm_scr, .ref 0, .null, .null], [.ref 190], ct_ap (pm_h0 L xs) (.inl (9, 32) :: ct_1)) = pm_D (171, 12, [.ref pm_scr, .ref 0, .null, .null], [.ref 190, .ref 190], ct_ap (pm_h0 L xs) (.inl (9, 32) :: ct_1)) := pm_D_go (by
    rw [pm_st_of (show pm_code 171 11 = some (.dup, 1, 0, 0, 0, 0) from by decide +kernel)]
    rfl)
  have t12 : pm_D (171, 12, [.ref pm_scr, .ref 0, .null, .null], [.ref 190, .ref 190], ct_ap (pm_h0 L xs) (.inl (9, 32) :: ct_1)) = pm_D (171, 15, [.ref pm_scr, .ref 0, .null, .null], [.ref 190], ct_ap (pm_h0 L xs) ct_2) := by
    rw [pm_D_call (s1 := (105, 0, [.ref 190], [], ct_ap (pm_h0 L xs) (.inl (9, 32) :: ct_1))) (fr := (171, 15, [.ref pm_scr, .ref 0, .null, .null], [.ref 190])) (by
      rw [pm_st_of (show pm_code 171 12 = some (.invokespecial 12, 3, 105, 1, 2, 3222) from by decide +kernel)]
      exact ct_st_ok L xs (l := .inl (9, 32) :: ct_1) (r := .inr (.inr ((105, 0, [.ref 190], [], .inl (9, 32) :: ct_1), (171, 15, [.ref pm_scr, .ref 0, .null, .null], [.ref 190])))) rfl), d2]
    generalize ct_ap (pm_h0 L xs) ct_2 = hh
    rfl
  have t15 : pm_D (171, 15, [.ref pm_scr, .ref 0, .null, .null], [.ref 190], ct_ap (pm_h0 L xs) ct_2) = pm_D (171, 16, [.ref pm_scr, .ref 0, .ref 190, .null], [], ct_ap (pm_h0 L xs) ct_2) := pm_e_astore_n (show pm_code 171 15 = some (.astore_n 2, 1, 0, 0, 0, 0) from by decide +kernel) (by decide)
  have hI : Inv (300 * ((0 : Nat) : Int)) (ct_Z L xs) ct_W := ct_inv L xs
  obtain ⟨Z', W', hl⟩ := law_loop H hL 512 0 (ct_Z L xs) ct_W hI (fun j => by
    show pm_r (Int32.toInt _)
    exact ⟨Int32.le_toInt _, Int32.toInt_lt _⟩) (by omega) (by omega)
  have t16 : pm_D (171, 16, [.ref pm_scr, .ref 0, .ref 190, .null], [], ct_ap (pm_h0 L xs) ct_2) = some (some (.int (pm_J 1)), pm_hp L Z' W') := by
    rw [ct_heap]
    show pm_D (171, 16, [.ref 1000000, .ref 0, .ref 190, .null], [], pm_hp L (ct_Z L xs) ct_W) = _
    rw [q_171_16, q_171_17]
    exact hl
  obtain ⟨f, hf⟩ := pm_D_get (((((((((t0.trans t3).trans t4).trans t7).trans t8).trans t11).trans t12).trans t15).trans t16))
  exact ⟨f, pm_hp L Z' W', hf, by show 212 ≤ 600000; decide, by show 12817 ≤ 7302250; decide⟩
