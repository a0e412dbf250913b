/-! a message alone: the least minutes -/
theorem lone_minute {m f d N : Nat} {u : Bool} {s : Nat → Int} {B : Int} {X Y : Nat → Nat} {Z : Nat → Nat → Int} (K : LK m f d N u s Z) (O : LO m Z) (V : LV m f d N u s (fun _ => B) X Y Z) (hst : Z 191 (1 + m) = 0) (t0 : 0 ≤ Z 191 0) (t1 : Z 191 0 < 1000000) (hB0 : 0 ≤ B) (hB : B ≤ 900000) (L : Nat) (W : Nat → Nat) : ∃ Z', pm_D (157, 0, [.ref 190, .null, .null, .null], [], pm_hp L Z W) = some (none, pm_hp L Z' W) ∧ FrR Z Z' ∧ LK m f d N u s Z' ∧ LO m Z' ∧ LV m f d N u s (fun _ => B + 1) (nX d X Y) (nY d X Y) Z' ∧ Z' 191 (1 + m) = (if nX d X Y d = N then 1 else 0) ∧ Z' 191 0 = Z 191 0 + 1 := by
  have hR := lone_rok K O V (by rw [hst]; decide)
  obtain ⟨⟨k0, k0', k00, k01⟩, k1, k2, kf, ⟨k3, k4, k5⟩, ⟨k6, k7, k8, G, ks⟩, k9⟩ := id K
  have m10 : m < 10 := by omega
  obtain ⟨Z1, e1, s1, s2, s3, s4⟩ := r_start L Z W hR
  have q190 := s1 190 (by omega) (by omega) (by omega)
  have q5 := s1 205 (by omega) (by omega) (by omega)
  have q6 := s1 206 (by omega) (by omega) (by omega)
  have K1 : LK m f d N u s Z1 := LK_congr K q190 q5 q6 (s1 _ (by omega) (by omega) (by omega)) (s1 _ (by omega) (by omega) (by omega)) (s1 _ (by omega) (by omega) (by omega))
  have r1 : ∀ q, ¬ (303 ≤ q ∧ q < 311) → Z1 191 q = Z 191 q := fun q hq => by rw [s2, if_neg (by omega)]
  have V1 : LV m f d N u s (fun _ => B) X Y Z1 := LV_ext m10 G V k8 (fun q h1 _ _ => r1 q h1)
  have hpk : ∀ t : Nat, (t : Int) < Z 190 0 → (rk_lk Z m t = -6 ∧ Z1 210 t = -1) ∨ (rk_lk Z m t ≠ -6 ∧ Z1 210 t = (m : Int) ∧ Z1 211 t = rk_lk Z m t) := fun t ht => by
    have hp := rk_only k1 (t : Int) (Z 190 22).toNat
    have a1 := s3 t
    have a2 := s4 t
    rw [if_pos ht] at a1
    by_cases c : rk_lk Z m t = -6
    · rw [if_neg (fun q => q.2 c)] at hp
      rw [hp, if_pos (by decide)] at a1
      exact Or.inl ⟨c, a1⟩
    · rw [if_pos ⟨by omega, c⟩] at hp
      rw [hp] at a1 a2
      have h0 : ¬ ((m : Int), rk_lk Z m t).1 < 0 := by
        show ¬ (m : Int) < 0
        omega
      rw [if_neg h0] at a1
      rw [if_pos ⟨ht, by show 0 ≤ (m : Int); omega⟩] at a2
      exact Or.inr ⟨c, a1, a2⟩
  have hlk := lone_lk K V hst
  have P : LTk m f d u X Z1 := by
    intro l hl
    rw [q190] at hl
    have ha := hpk l (by omega)
    have hb := hpk (l + 1) (by omega)
    rw [show (((l + 1 : Nat)) : Int) = (l : Int) + 1 by omega] at hb
    have ra := rk_lk_r (i := m) (Z := Z) (l : Int)
    have rb := rk_lk_r (i := m) (Z := Z) ((l : Int) + 1)
    refine ⟨by omega, ?_, by omega⟩
    rw [← hlk l]
    omega
  have M0 : LM m f d N u s B X Y Z1 0 Z1 := ⟨fun _ _ => rfl, fun _ _ => rfl, LV_congr V1 (fun p hp => by
    cases p with
    | zero => rfl
    | succ p =>
      show (if lkp u f p < 0 then nX d X Y (p + 1) else X (p + 1)) = X (p + 1)
      rw [if_neg (Nat.not_lt_zero _)]) (fun p hp => by
    show (if lkp u f p < 0 then nY d X Y p else Y p) = Y p
    rw [if_neg (Nat.not_lt_zero _)]) (fun l _ => by show B ≤ B + (if l < 0 then 1 else 0); rw [if_neg (Nat.not_lt_zero _)]; omega)⟩
  obtain ⟨Z2, x1, x2, x3, e2, M⟩ := lone_links K1 P hB0 hB L W (Z1 190 0 - 1).toNat 0 Z1 .null .null (by rw [q190]; omega) M0
  rw [show (((0 : Nat)) : Int) = 0 from rfl] at e2
  obtain ⟨m1, m2, V2⟩ := M
  rw [q190] at V2
  have lkt : ∀ p, p < d → lkp u f p < (Z 190 0 - 1).toNat := fun p hp => by
    have a := k5 p (by omega)
    have b := k5 (p + 1) (by omega)
    have c := geo_adj G hp
    rcases c with ⟨-, c1, c2⟩ | ⟨-, c1, c2⟩ <;> omega
  have V3 : LV m f d N u s (fun _ => B + 1) (nX d X Y) (nY d X Y) Z2 := LV_congr V2 (fun p hp => by
    cases p with
    | zero => rfl
    | succ p => exact (if_pos (lkt p (by omega))).symm) (fun p hp => (if_pos (lkt p hp)).symm) (fun l _ => by
      show B + (if l < (Z 190 0 - 1).toNat then 1 else 0) ≤ B + 1
      split <;> omega)
  have w190 : Z2 190 = Z 190 := (m1 190 (by omega)).trans q190
  have w5 : Z2 205 = Z 205 := (m1 205 (by omega)).trans q5
  have w6 : Z2 206 = Z 206 := (m1 206 (by omega)).trans q6
  have K2 : LK m f d N u s Z2 := LK_congr K1 (m1 _ (by omega)) (m1 _ (by omega)) (m1 _ (by omega)) (m1 _ (by omega)) (m1 _ (by omega)) (m1 _ (by omega))
  have hso : ∀ q, sO m q → Z2 191 q = Z 191 q := fun q hq => by
    rw [m2 q hq, r1 q (by unfold sO at hq; omega)]
  have st2 : Z2 191 (1 + m) = 0 := by rw [hso _ (by unfold sO; omega)]; exact hst
  have O2 : LO m Z2 := by
    intro i hi him
    rw [w190] at hi
    rw [w5, w6]
    obtain ⟨o1, o2⟩ := O i hi him
    have kk := (k9 i hi).1
    refine ⟨by rw [hso _ (by unfold sO; omega)]; exact o1, fun t h1 h2 => ?_⟩
    have t8 : t < 8 := by
      split at h2 <;> omega
    rw [hso _ (by unfold sO; omega)]
    exact o2 t h1 h2
  have hR2 := lone_rok K2 O2 V3 (by rw [st2]; decide)
  have tm2 : Z2 191 0 = Z 191 0 := hso 0 (by unfold sO; omega)
  obtain ⟨Z3, e3, g1, g2, g3, g4⟩ := r_end x1 x2 x3 L Z2 W hR2 (by rw [tm2]; exact t0) (by rw [tm2]; exact t1)
  rw [w190] at g3 g4
  refine ⟨Z3, (e1.trans e2).trans e3, ⟨fun a h1 h2 h3 => by rw [g1 a h1, m1 a h1, s1 a h1 h2 h3], fun q hq => by rw [g3 q (by omega) (by omega) (by omega), hso q (by unfold sO; omega)]⟩, LK_congr K2 (g1 _ (by omega)) (g1 _ (by omega)) (g1 _ (by omega)) (g1 _ (by omega)) (g1 _ (by omega)) (g1 _ (by omega)), ?_, LV_ext m10 G V3 k8 (fun q h1 h2 h3 => g3 q h2 (by omega) (by omega)), ?_, by rw [g2, tm2]⟩
  · intro i hi him
    rw [g1 190 (by omega), w190] at hi
    rw [g1 205 (by omega), g1 206 (by omega)]
    obtain ⟨o1, o2⟩ := O2 i (by rw [w190]; exact hi) him
    refine ⟨?_, fun t h1 h2 => ?_⟩
    · rw [(g4 i hi).1]
      split
      · decide
      · exact o1
    · rw [g3 _ (by omega) (by omega) (by omega)]
      exact o2 t h1 h2
  · rw [(g4 m k2).1]
    obtain ⟨⟨h1, h1'⟩, h2, -⟩ := V3
    have a1 := h2 d (Nat.le_refl _)
    have a2 := h2 0 (Nat.zero_le _)
    have t0' : tw u f 0 = f := by
      rcases id G with ⟨rfl, q⟩ | ⟨rfl, q, q'⟩
      · rw [tw_t]; omega
      · rw [tw_f]; omega
    rw [t0'] at a2
    have hf : (Z2 205 m).toNat = f := by rw [w5, k3]; omega
    have hg : (Z2 206 m).toNat = tw u f d := by rw [w6, k4]; omega
    by_cases c : nX d X Y d = N
    · rw [if_pos c, if_pos]
      refine ⟨st2, ?_⟩
      rw [hf, hg, a1, a2, h1, c]
    · rw [if_neg c, if_neg, st2]
      rintro ⟨-, q⟩
      rw [hf, hg, a1, a2, h1] at q
      omega
/-- how far the copies are at minute t -/
def Xf (d N t p : Nat) : Nat := if p = 0 then N else if d = 1 then (if N ≤ t / 3 then N else t / 3) else if t < 3 * p then 0 else if N ≤ (t - 3 * p) / 6 + 1 then N else (t - 3 * p) / 6 + 1
def Yf (d N t p : Nat) : Nat := if d = 1 then (if t / 3 < N then t % 3 else 0) else if t < 3 * p then 0 else if (t - 3 * p) / 6 < N ∧ (t - 3 * p) % 6 < 3 then (t - 3 * p) % 6 else 0
theorem Xf0 {d N t : Nat} : Xf d N t 0 = N := rfl
theorem Xf1 {N t p : Nat} : Xf 1 N t (p + 1) = if N ≤ t / 3 then N else t / 3 := by
  unfold Xf
  rw [if_neg (by omega), if_pos rfl]
theorem Xf2 {d N t p : Nat} (hd : d ≠ 1) : Xf d N t (p + 1) = if t < 3 * p + 3 then 0 else if N ≤ (t - (3 * p + 3)) / 6 + 1 then N else (t - (3 * p + 3)) / 6 + 1 := by
  unfold Xf
  rw [if_neg (by omega), if_neg hd]
  rfl
theorem Yf2 {d N t p : Nat} (hd : d ≠ 1) : Yf d N t p = if t < 3 * p then 0 else if (t - 3 * p) / 6 < N ∧ (t - 3 * p) % 6 < 3 then (t - 3 * p) % 6 else 0 := by
  unfold Yf
  rw [if_neg hd]
theorem actF {d N t p : Nat} (hd : d ≠ 1) (hN : 1 ≤ N) (hp : p < d) : act d (Xf d N t) p ↔ (3 * p ≤ t ∧ (t - 3 * p) / 6 < N ∧ (t - 3 * p) % 6 < 3) := by
  unfold act
  rw [Xf2 hd, show p + 2 = (p + 1) + 1 from rfl, Xf2 hd]
  cases p with
  | zero =>
    rw [Xf0]
    split <;> split <;> (try split) <;> (try split) <;> omega
  | succ p =>
    rw [Xf2 hd]
    split <;> split <;> (try split) <;> (try split) <;> (try split) <;> (try split) <;> omega
theorem step2 {d N t p : Nat} (hd : d ≠ 1) (hN : 1 ≤ N) (hp : p < d) : nX d (Xf d N t) (Yf d N t) (p + 1) = Xf d N (t + 1) (p + 1) ∧ nY d (Xf d N t) (Yf d N t) p = Yf d N (t + 1) p := by
  have ha := actF (t := t) hd hN hp
  rw [← act_iff] at ha
  constructor
  · show (if actB d (Xf d N t) p = true ∧ Yf d N t p = 2 then Xf d N t (p + 1) + 1 else Xf d N t (p + 1)) = _
    rw [Xf2 hd, Xf2 hd, Yf2 hd]
    by_cases c : 3 * p ≤ t ∧ (t - 3 * p) / 6 < N ∧ (t - 3 * p) % 6 < 3
    · rw [if_neg (show ¬ t < 3 * p by omega), if_pos c.2]
      by_cases c2 : (t - 3 * p) % 6 = 2
      · rw [if_pos ⟨ha.mpr c, c2⟩]
        split <;> (try split) <;> (try split) <;> (try split) <;> omega
      · rw [if_neg (fun q => c2 q.2)]
        split <;> (try split) <;> (try split) <;> (try split) <;> omega
    · rw [if_neg (fun q => c (ha.mp q.1))]
      split <;> (try split) <;> (try split) <;> (try split) <;> omega
  · unfold nY
    rw [Yf2 hd, Yf2 hd]
    by_cases c : 3 * p ≤ t ∧ (t - 3 * p) / 6 < N ∧ (t - 3 * p) % 6 < 3
    · rw [if_pos (ha.mpr c), if_neg (show ¬ t < 3 * p by omega), if_pos c.2]
      split <;> (try split) <;> (try split) <;> omega
    · rw [if_neg (fun q => c (ha.mp q))]
      split <;> (try split) <;> (try split) <;> (try split) <;> omega
theorem step1 {N t : Nat} (hN : 1 ≤ N) : nX 1 (Xf 1 N t) (Yf 1 N t) 1 = Xf 1 N (t + 1) 1 ∧ nY 1 (Xf 1 N t) (Yf 1 N t) 0 = Yf 1 N (t + 1) 0 := by
  have ha : act 1 (Xf 1 N t) 0 ↔ t / 3 < N := by
    unfold act
    rw [Xf0, Xf1]
    split <;> omega
  rw [← act_iff] at ha
  constructor
  · show (if actB 1 (Xf 1 N t) 0 = true ∧ Yf 1 N t 0 = 2 then Xf 1 N t (0 + 1) + 1 else Xf 1 N t (0 + 1)) = Xf 1 N (t + 1) (0 + 1)
    rw [Xf1, Xf1]
    unfold Yf
    rw [if_pos rfl]
    by_cases c : t / 3 < N
    · rw [if_pos c]
      by_cases c2 : t % 3 = 2
      · rw [if_pos ⟨ha.mpr c, c2⟩]
        split <;> (try split) <;> omega
      · rw [if_neg (fun q => c2 q.2)]
        split <;> (try split) <;> omega
    · rw [if_neg (fun q => c (ha.mp q.1))]
      split <;> (try split) <;> omega
  · unfold nY Yf
    rw [if_pos rfl, if_pos rfl]
    by_cases c : t / 3 < N
    · rw [if_pos (ha.mpr c), if_pos c]
      split <;> (try split) <;> omega
    · rw [if_neg (fun q => c (ha.mp q)), if_neg c]
      split <;> omega
def least (d N : Nat) : Nat := if d = 1 then 3 * N else 3 * d + 6 * (N - 1)
theorem Xf_least {d N t : Nat} (hd : 1 ≤ d) (hN : 1 ≤ N) : (Xf d N t d = N ↔ least d N ≤ t) := by
  unfold least
  obtain ⟨p, rfl⟩ : ∃ p, d = p + 1 := ⟨d - 1, by omega⟩
  by_cases c : p + 1 = 1
  · obtain rfl : p = 0 := by omega
    rw [Xf1, if_pos rfl]
    split <;> omega
  · rw [Xf2 c, if_neg c]
    split
    · omega
    · split <;> omega
theorem lone_run {m f d N : Nat} {u : Bool} {s : Nat → Int} (L : Nat) (W : Nat → Nat) : ∀ (k t : Nat) (B n0 : Int) (Z : Nat → Nat → Int), t + k = least d N → LK m f d N u s Z → LO m Z → LV m f d N u s (fun _ => B) (Xf d N t) (Yf d N t) Z → Z 191 (1 + m) = (if Xf d N t d = N then 1 else 0) → 0 ≤ Z 191 0 → Z 191 0 + k < 1000000 → 0 ≤ B → B + k ≤ 900000 → ∃ Z', pm_D (168, 94, [.ref 190, .int (pm_J (m : Int)), .int (pm_J n0)], [], pm_hp L Z W) = pm_D (168, 112, [.ref 190, .int (pm_J (m : Int)), .int (pm_J (n0 + k))], [], pm_hp L Z' W) ∧ FrR Z Z' := by
  intro k
  induction k with
  | zero =>
    intro t B n0 Z hg K O V hst t0 t1 hB0 hB
    have kk := K.2.2.2.2.2.1
    have m10 : m < 10 := by have := K.1; have := K.2.2.1; omega
    rw [if_pos ((Xf_least kk.1 kk.2.1).mpr (by omega))] at hst
    have e1 : (1 + (m : Int)).toNat = 1 + m := by omega
    have hu := c_R_isUnderWay (m : Int) L Z W (by omega) (by omega) (by rw [e1, hst]; decide)
    rw [e1, hst, if_neg (by decide)] at hu
    refine ⟨Z, ?_, FrR.rfl⟩
    rw [q_168_94]
    simp (disch := first | assumption | decide +kernel | omega | (split <;> omega)) only [q_168_0, q_168_1, q_168_2, q_168_5, q_168_8, q_168_10, q_168_11, q_168_12, q_168_15, q_168_16, q_168_17, q_168_20, q_168_21, q_168_24, q_168_25, q_168_26, q_168_27, q_168_28, q_168_29, q_168_30, q_168_31, q_168_32, q_168_33, q_168_36, q_168_39, q_168_40, q_168_43, q_168_45, q_168_47, q_168_48, q_168_49, q_168_50, q_168_51, q_168_52, q_168_53, q_168_54, q_168_55, q_168_56, q_168_59, q_168_60, q_168_61, q_168_64, q_168_65, q_168_68, q_168_69, q_168_70, q_168_71, q_168_72, q_168_75, q_168_77, q_168_79, q_168_80, q_168_81, q_168_82, q_168_83, q_168_84, q_168_85, q_168_86, q_168_89, q_168_92, q_168_93, q_168_95, q_168_96, q_168_99, q_168_102, q_168_103, q_168_106, q_168_109, q_168_113, q_168_114, q_168_117, q_168_118, q_168_121, q_168_122, pm_some, Option.toList_some, Option.toList_none, List.cons_append, List.nil_append, pm_i0, pm_i1, Nat.reduceAdd, Nat.reduceMul, Int.toNat_natCast, Int.toNat_zero, not_true_eq_false, not_false_eq_true, and_self, true_and, and_true, ↓reduceIte, Int.reduceEq, Int.reduceLT, Int.reduceLE, Int.reduceNeg, Bool.false_eq_true, hu]
    rw [show n0 + ((0 : Nat) : Int) = n0 by omega]
  | succ k ih =>
    intro t B n0 Z hg K O V hst t0 t1 hB0 hB
    have kk := K.2.2.2.2.2.1
    have m10 : m < 10 := by have := K.1; have := K.2.2.1; omega
    rw [if_neg (fun q => by have := (Xf_least kk.1 kk.2.1).mp q; omega)] at hst
    have e1 : (1 + (m : Int)).toNat = 1 + m := by omega
    have hu := c_R_isUnderWay (m : Int) L Z W (by omega) (by omega) (by rw [e1, hst]; decide)
    rw [e1, hst, if_pos rfl] at hu
    obtain ⟨Z1, x1, F1, K1, O1, V1, st1, tm1⟩ := lone_minute K O V hst t0 (by omega) hB0 (by omega) L W
    have ex : ∀ p, p ≤ d → Xf d N (t + 1) p = nX d (Xf d N t) (Yf d N t) p := fun p hp => by
      cases p with
      | zero => rfl
      | succ p =>
        by_cases c : d = 1
        · subst c
          obtain rfl : p = 0 := by omega
          exact (step1 kk.2.1).1.symm
        · exact (step2 c kk.2.1 (by omega)).1.symm
    have ey : ∀ p, p < d → Yf d N (t + 1) p = nY d (Xf d N t) (Yf d N t) p := fun p hp => by
      by_cases c : d = 1
      · subst c
        obtain rfl : p = 0 := by omega
        exact (step1 kk.2.1).2.symm
      · exact (step2 c kk.2.1 hp).2.symm
    obtain ⟨Z2, x2, F2⟩ := ih (t + 1) (B + 1) (n0 + 1) Z1 (by omega) K1 O1 (LV_congr V1 ex ey (fun _ _ => Int.le_refl _)) (by rw [st1, ex d (Nat.le_refl _)]) (by omega) (by omega) (by omega) (by omega)
    refine ⟨Z2, ?_, FrR.trans F1 F2⟩
    rw [q_168_94]
    simp (disch := first | assumption | decide +kernel | omega | (split <;> omega)) only [q_168_0, q_168_1, q_168_2, q_168_5, q_168_8, q_168_10, q_168_11, q_168_12, q_168_15, q_168_16, q_168_17, q_168_20, q_168_21, q_168_24, q_168_25, q_168_26, q_168_27, q_168_28, q_168_29, q_168_30, q_168_31, q_168_32, q_168_33, q_168_36, q_168_39, q_168_40, q_168_43, q_168_45, q_168_47, q_168_48, q_168_49, q_168_50, q_168_51, q_168_52, q_168_53, q_168_54, q_168_55, q_168_56, q_168_59, q_168_60, q_168_61, q_168_64, q_168_65, q_168_68, q_168_69, q_168_70, q_168_71, q_168_72, q_168_75, q_168_77, q_168_79, q_168_80, q_168_81, q_168_82, q_168_83, q_168_84, q_168_85, q_168_86, q_168_89, q_168_92, q_168_93, q_168_95, q_168_96, q_168_99, q_168_102, q_168_103, q_168_106, q_168_109, q_168_113, q_168_114, q_168_117, q_168_118, q_168_121, q_168_122, pm_some, Option.toList_some, Option.toList_none, List.cons_append, List.nil_append, pm_i0, pm_i1, Nat.reduceAdd, Nat.reduceMul, Int.toNat_natCast, Int.toNat_zero, not_true_eq_false, not_false_eq_true, and_self, true_and, and_true, ↓reduceIte, Int.reduceEq, Int.reduceLT, Int.reduceLE, Int.reduceNeg, Bool.false_eq_true, hu, x1]
    rw [x2, show n0 + 1 + (k : Int) = n0 + ((k + 1 : Nat) : Int) by omega]
theorem l_R_pre {m : Nat} (hm : m < 10) (f : Int) (L : Nat) (W : Nat → Nat) : ∀ (n t : Nat) (Z : Nat → Nat → Int), Z 190 0 ≤ 8 → Z 205 m = f → pm_r f → (t : Int) + n = Z 190 0 → ∃ Z', pm_D (168, 31, [.ref 190, .int (pm_J (m : Int)), .int (pm_J (t : Int))], [], pm_hp L Z W) = pm_D (168, 92, [.ref 190, .int (pm_J (m : Int)), .int (pm_J (Z 190 0))], [], pm_hp L Z' W) ∧ (∀ a, a ≠ 191 → Z' a = Z a) ∧ (∀ q, ¬ (31 + 8 * m + t ≤ q ∧ q < 39 + 8 * m) → ¬ (111 + 8 * m + t ≤ q ∧ q < 119 + 8 * m) → Z' 191 q = Z 191 q) ∧ ∀ t' : Nat, t ≤ t' → (t' : Int) < Z 190 0 → Z' 191 (31 + 8 * m + t') = (if (t' : Int) = f then Z 191 (31 + 8 * m + t') else 0) ∧ Z' 191 (111 + 8 * m + t') = 0 := by
  intro n
  induction n with
  | zero =>
    intro t Z h8 hf hr hk
    have e : Z 190 0 = (t : Int) := by omega
    refine ⟨Z, ?_, fun _ _ => rfl, fun _ _ _ => rfl, fun t' h1 h2 => by omega⟩
    rw [q_168_31, e]
    simp (disch := first | assumption | decide +kernel | omega | (split <;> omega)) only [q_168_0, q_168_1, q_168_2, q_168_5, q_168_8, q_168_10, q_168_11, q_168_12, q_168_15, q_168_16, q_168_17, q_168_20, q_168_21, q_168_24, q_168_25, q_168_26, q_168_27, q_168_28, q_168_29, q_168_30, q_168_32, q_168_33, q_168_36, q_168_39, q_168_40, q_168_43, q_168_45, q_168_47, q_168_48, q_168_49, q_168_50, q_168_51, q_168_52, q_168_53, q_168_54, q_168_55, q_168_56, q_168_59, q_168_60, q_168_61, q_168_64, q_168_65, q_168_68, q_168_69, q_168_70, q_168_71, q_168_72, q_168_75, q_168_77, q_168_79, q_168_80, q_168_81, q_168_82, q_168_83, q_168_84, q_168_85, q_168_86, q_168_89, q_168_93, q_168_94, q_168_95, q_168_96, q_168_99, q_168_102, q_168_103, q_168_106, q_168_109, q_168_112, q_168_113, q_168_114, q_168_117, q_168_118, q_168_121, q_168_122, pm_some, Option.toList_some, Option.toList_none, List.cons_append, List.nil_append, pm_i0, pm_i1, Nat.reduceAdd, Nat.reduceMul, Int.toNat_natCast, Int.toNat_zero, not_true_eq_false, not_false_eq_true, and_self, true_and, and_true, ↓reduceIte, Int.reduceEq, Int.reduceLT, Int.reduceLE, Int.reduceNeg, Bool.false_eq_true, e, Int.lt_irrefl]
  | succ n ih =>
    intro t Z h8 hf hr hk
    have hlt : (t : Int) < Z 190 0 := by omega
    have e1 : (31 + 8 * (m : Int) + (t : Int)).toNat = 31 + 8 * m + t := by omega
    have e2 : (111 + 8 * (m : Int) + (t : Int)).toNat = 111 + 8 * m + t := by omega
    obtain ⟨U, hU⟩ : ∃ U, U = pm_up (pm_up Z 191 (31 + 8 * m + t) (if (t : Int) = f then Z 191 (31 + 8 * m + t) else 0)) 191 (111 + 8 * m + t) 0 := ⟨_, rfl⟩
    have u1 : ∀ a, a ≠ 191 → U a = Z a := fun a ha => by rw [hU, pm_up_row ha, pm_up_row ha]
    have u2 : U 191 (31 + 8 * m + t) = (if (t : Int) = f then Z 191 (31 + 8 * m + t) else 0) := by rw [hU, pm_up_ne (by omega), pm_up_same]
    have u3 : U 191 (111 + 8 * m + t) = 0 := by rw [hU, pm_up_same]
    have u4 : ∀ q, q ≠ 31 + 8 * m + t → q ≠ 111 + 8 * m + t → U 191 q = Z 191 q := fun q h1 h2 => by rw [hU, pm_up_ne (by omega), pm_up_ne (by omega)]
    have u190 := u1 190 (by omega)
    obtain ⟨Z', x, f1, f2, f3⟩ := ih (t + 1) U (by rw [u190]; exact h8) (by rw [u1 205 (by omega)]; exact hf) hr (by rw [u190]; omega)
    rw [u190] at x f3
    rw [show (((t + 1 : Nat)) : Int) = (t : Int) + 1 by omega] at x
    refine ⟨Z', ?_, fun a ha => by rw [f1 a ha, u1 a ha], fun q h1 h2 => by rw [f2 q (by omega) (by omega), u4 q (by omega) (by omega)], fun t' h1 h2 => ?_⟩
    · rw [← x, hU, q_168_31 190 (m : Int) (t : Int)]
      by_cases c : (t : Int) = f
      · rw [if_pos c]
        subst c
        simp (disch := first | assumption | decide +kernel | omega | (split <;> omega)) only [q_168_0, q_168_1, q_168_2, q_168_5, q_168_8, q_168_10, q_168_11, q_168_12, q_168_15, q_168_16, q_168_17, q_168_20, q_168_21, q_168_24, q_168_25, q_168_26, q_168_27, q_168_28, q_168_29, q_168_30, q_168_32, q_168_33, q_168_36, q_168_39, q_168_40, q_168_43, q_168_45, q_168_47, q_168_48, q_168_49, q_168_50, q_168_51, q_168_52, q_168_53, q_168_54, q_168_55, q_168_56, q_168_59, q_168_60, q_168_61, q_168_64, q_168_65, q_168_68, q_168_69, q_168_70, q_168_71, q_168_72, q_168_75, q_168_77, q_168_79, q_168_80, q_168_81, q_168_82, q_168_83, q_168_84, q_168_85, q_168_86, q_168_89, q_168_93, q_168_94, q_168_95, q_168_96, q_168_99, q_168_102, q_168_103, q_168_106, q_168_109, q_168_112, q_168_113, q_168_114, q_168_117, q_168_118, q_168_121, q_168_122, pm_some, Option.toList_some, Option.toList_none, List.cons_append, List.nil_append, pm_i0, pm_i1, Nat.reduceAdd, Nat.reduceMul, Int.toNat_natCast, Int.toNat_zero, not_true_eq_false, not_false_eq_true, and_self, true_and, and_true, ↓reduceIte, Int.reduceEq, Int.reduceLT, Int.reduceLE, Int.reduceNeg, Bool.false_eq_true, hlt, e1, e2, hf, pm_up_row, Int.mul_one]
      · rw [if_neg c]
        simp (disch := first | assumption | decide +kernel | omega | (split <;> omega)) only [q_168_0, q_168_1, q_168_2, q_168_5, q_168_8, q_168_10, q_168_11, q_168_12, q_168_15, q_168_16, q_168_17, q_168_20, q_168_21, q_168_24, q_168_25, q_168_26, q_168_27, q_168_28, q_168_29, q_168_30, q_168_32, q_168_33, q_168_36, q_168_39, q_168_40, q_168_43, q_168_45, q_168_47, q_168_48, q_168_49, q_168_50, q_168_51, q_168_52, q_168_53, q_168_54, q_168_55, q_168_56, q_168_59, q_168_60, q_168_61, q_168_64, q_168_65, q_168_68, q_168_69, q_168_70, q_168_71, q_168_72, q_168_75, q_168_77, q_168_79, q_168_80, q_168_81, q_168_82, q_168_83, q_168_84, q_168_85, q_168_86, q_168_89, q_168_93, q_168_94, q_168_95, q_168_96, q_168_99, q_168_102, q_168_103, q_168_106, q_168_109, q_168_112, q_168_113, q_168_114, q_168_117, q_168_118, q_168_121, q_168_122, pm_some, Option.toList_some, Option.toList_none, List.cons_append, List.nil_append, pm_i0, pm_i1, Nat.reduceAdd, Nat.reduceMul, Int.toNat_natCast, Int.toNat_zero, not_true_eq_false, not_false_eq_true, and_self, true_and, and_true, ↓reduceIte, Int.reduceEq, Int.reduceLT, Int.reduceLE, Int.reduceNeg, Bool.false_eq_true, hlt, e1, e2, hf, pm_up_row, c, Int.mul_zero]
    · by_cases c : t' = t
      · subst c
        rw [f2 _ (by omega) (by omega), f2 _ (by omega) (by omega), u2, u3]
        exact ⟨rfl, rfl⟩
      · have := f3 t' (by omega) h2
        rw [u4 _ (by omega) (by omega)] at this
        exact this
theorem c_minutesAlone (a : Nat) (L : Nat) (Z : Nat → Nat → Int) (W : Nat → Nat) (k1 : pm_kd a = 4) (r : pm_r (Z a 4 - Z a 3)) : pm_D (56, 0, [.ref a, .null], [], pm_hp L Z W) = some (some (.int (pm_J (if Z a 4 - Z a 3 = 1 then 3 * Z a 6 else 3 * (Z a 4 - Z a 3) + 6 * (Z a 6 - 1)))), pm_hp L Z W) := by
  by_cases c : Z a 4 - Z a 3 = 1
  · simp (disch := first | assumption | decide +kernel | omega | (split <;> omega)) only [q_56_0, q_56_1, q_56_4, q_56_5, q_56_8, q_56_9, q_56_10, q_56_11, q_56_12, q_56_15, q_56_16, q_56_17, q_56_20, q_56_21, q_56_22, q_56_23, q_56_24, q_56_25, q_56_27, q_56_28, q_56_31, q_56_32, q_56_33, q_56_34, q_56_35, pm_some, Option.toList_some, Option.toList_none, List.cons_append, List.nil_append, pm_i0, pm_i1, Nat.reduceAdd, Nat.reduceMul, Int.toNat_natCast, Int.toNat_zero, not_true_eq_false, not_false_eq_true, and_self, true_and, and_true, ↓reduceIte, Int.reduceEq, Int.reduceLT, Int.reduceLE, Int.reduceNeg, Bool.false_eq_true, c]
  · simp (disch := first | assumption | decide +kernel | omega | (split <;> omega)) only [q_56_0, q_56_1, q_56_4, q_56_5, q_56_8, q_56_9, q_56_10, q_56_11, q_56_12, q_56_15, q_56_16, q_56_17, q_56_20, q_56_21, q_56_22, q_56_23, q_56_24, q_56_25, q_56_27, q_56_28, q_56_31, q_56_32, q_56_33, q_56_34, q_56_35, pm_some, Option.toList_some, Option.toList_none, List.cons_append, List.nil_append, pm_i0, pm_i1, Nat.reduceAdd, Nat.reduceMul, Int.toNat_natCast, Int.toNat_zero, not_true_eq_false, not_false_eq_true, and_self, true_and, and_true, ↓reduceIte, Int.reduceEq, Int.reduceLT, Int.reduceLE, Int.reduceNeg, Bool.false_eq_true, c]
theorem op_leastMinutes : Op_leastMinutes := by
  intro T L Z W hI hT0 hT a ha
  obtain ⟨⟨⟨a1, a2, a3, a4, a5, a6, a7, a8, a9, a10, a11⟩, ⟨⟨w1, w2, w3, w4, w5, w6⟩, ⟨w7, w8, w9⟩, w10⟩, ⟨⟨kf1, kf2, kf3⟩, kf4⟩, hms, hun, hco, hsh, htk⟩, htx, hbk, hon⟩ := id hI
  have a8' : 0 ≤ Z 46 4 := by omega
  have a9' : Z 46 4 ≤ 10 := by omega
  have a2' : 0 ≤ Z 46 2 := by omega
  have a3' : Z 46 2 ≤ 8 := by omega
  have a2'' : 0 ≤ Z 190 0 := by omega
  by_cases hm : 0 ≤ a ∧ a < Z 190 22
  · skip
    have hi : ((a.toNat : Nat) : Int) = a := by omega
    obtain ⟨k1, k2, k3, k4, k5, k6, k7, k8, k9⟩ := kM46 (n := a.toNat) (by omega)
    have hmm : lm (61 + 5 * a.toNat) T Z a.toNat := hms a.toNat (by omega)
    obtain ⟨⟨⟨s1, s2, s3, s4, s5, s6, s7⟩, ⟨s8, s9, s10⟩, s11, s12, s13, s14, s15, s16, s17, s18, s19⟩, ⟨d1, d2, d3, d4, d5, d6, d7, d8, d9⟩, ml, mp, mc, mo⟩ := hmm
    have e1 : (31 + 8 * a + Z 205 a.toNat).toNat = 31 + 8 * a.toNat + (Z 205 a.toNat).toNat := by omega
    have e2 : (1 + a).toNat = 1 + a.toNat := by omega
    have e3 : (11 + a).toNat = 11 + a.toNat := by omega
    have e4 : (21 + a).toNat = 21 + a.toNat := by omega
    obtain ⟨m, hmm'⟩ : ∃ m : Nat, a = (m : Int) := ⟨a.toNat, by omega⟩
    subst hmm'
    rw [Int.toNat_natCast] at *
    obtain ⟨f, hf⟩ : ∃ f : Nat, Z 205 m = (f : Int) := ⟨(Z 205 m).toNat, by omega⟩
    obtain ⟨g, hg⟩ : ∃ g : Nat, Z 206 m = (g : Int) := ⟨(Z 206 m).toNat, by omega⟩
    obtain ⟨N, hN⟩ : ∃ N : Nat, Z (61 + 5 * m) 6 = (N : Int) := ⟨(Z (61 + 5 * m) 6).toNat, by omega⟩
    have hfN : Z 191 (31 + 8 * m + f) = (N : Int) := by
      rw [← hN, s14, hf, Int.toNat_natCast]
    obtain ⟨u, d, hud, G, hgd⟩ : ∃ (u : Bool) (d : Nat), (u = true ↔ (f : Int) < (g : Int)) ∧ Geo u f d ∧ g = tw u f d := by
      by_cases c : f < g
      · exact ⟨true, g - f, ⟨fun _ => by omega, fun _ => rfl⟩, Or.inl ⟨rfl, by omega⟩, by rw [tw_t]; omega⟩
      · exact ⟨false, f - g, ⟨fun h => Bool.noConfusion h, fun h => by omega⟩, Or.inr ⟨rfl, by omega, by omega⟩, by rw [tw_f]; omega⟩
    have hd1 : 1 ≤ d ∧ (Z (61 + 5 * m) 4 - Z (61 + 5 * m) 3 = (d : Int)) ∧ d < 8 := by
      rw [s9, s10, hf, hg]
      rcases id G with ⟨rfl, q⟩ | ⟨rfl, q, q'⟩
      · rw [tw_t] at hgd
        have := hud.mp rfl
        rw [if_pos this, if_pos this]
        omega
      · rw [tw_f] at hgd
        have : ¬ (f : Int) < (g : Int) := fun h => by have := hud.mpr h; exact Bool.noConfusion this
        rw [if_neg this, if_neg this]
        omega
    obtain ⟨d1', hdd, d8⟩ := hd1
    have hon' : ∀ p, p ≤ d → Z (61 + 5 * m) 3 ≤ (tw u f p : Int) ∧ (tw u f p : Int) ≤ Z (61 + 5 * m) 4 ∧ (tw u f p : Int) < Z 190 0 := fun p hp => by
      rw [s9, s10, hf, hg]
      rcases id G with ⟨rfl, q⟩ | ⟨rfl, q, q'⟩
      · rw [tw_t] at hgd ⊢
        have := hud.mp rfl
        rw [if_pos this, if_pos this]
        omega
      · rw [tw_f] at hgd ⊢
        have : ¬ (f : Int) < (g : Int) := fun h => by have := hud.mpr h; exact Bool.noConfusion this
        rw [if_neg this, if_neg this]
        omega
    have hM : (if Z (61 + 5 * m) 4 - Z (61 + 5 * m) 3 = 1 then 3 * Z (61 + 5 * m) 6 else 3 * (Z (61 + 5 * m) 4 - Z (61 + 5 * m) 3) + 6 * (Z (61 + 5 * m) 6 - 1)) = (least d N : Int) := by
      rw [hdd, hN]
      unfold least
      by_cases c : d = 1
      · rw [if_pos (by omega), if_pos c]; omega
      · rw [if_neg (by omega), if_neg c]; omega
    have hlst : least d N ≤ 300 := by unfold least; split <;> omega
    have hcm := c_minutesAlone (61 + 5 * m) L Z W k1 (by omega)
    rw [hM] at hcm
    -- the model's start
    obtain ⟨Z1, x1, f1, g1⟩ := c_putAside L Z W
    have q190 := f1 190 (by omega)
    have q191 := f1 191 (by omega)
    obtain ⟨Z2, hZ2⟩ : ∃ U, U = pm_up (pm_up Z1 190 29 (m : Int)) 191 (1 + m) 0 := ⟨_, rfl⟩
    have y1 : ∀ b, b ≠ 190 → b ≠ 191 → Z2 b = Z1 b := fun b h1 h2 => by rw [hZ2, pm_up_row h2, pm_up_row h1]
    have y190 : ∀ q, q ≠ 29 → Z2 190 q = Z 190 q := fun q hq => by rw [hZ2, pm_up_row (by omega), pm_up_ne (by omega), q190]
    have y29 : Z2 190 29 = (m : Int) := by rw [hZ2, pm_up_row (by omega), pm_up_same]
    have y191 : ∀ q, q ≠ 1 + m → Z2 191 q = Z 191 q := fun q hq => by rw [hZ2, pm_up_ne (by omega), pm_up_row (by omega), q191]
    have yst : Z2 191 (1 + m) = 0 := by rw [hZ2, pm_up_same]
    have yR : ∀ b, 193 ≤ b → Z2 b = Z b := fun b hb => by rw [y1 b (by omega) (by omega), f1 b (by omega)]
    obtain ⟨Z3, x3, f3, g3, h3⟩ := l_R_pre (m := m) (by omega) (f : Int) L W (Z 190 0).toNat 0 Z2 (by rw [y190 0 (by omega)]; exact a3) (by rw [yR 205 (by omega)]; exact hf) (by omega) (by rw [y190 0 (by omega)]; omega)
    rw [y190 0 (by omega)] at x3 h3
    rw [show (((0 : Nat)) : Int) = 0 from rfl] at x3
    have w190 : Z3 190 = Z2 190 := f3 190 (by omega)
    have w0 : ∀ q, q ≠ 29 → Z3 190 q = Z 190 q := fun q hq => by rw [w190]; exact y190 q hq
    have wR : ∀ b, 193 ≤ b → Z3 b = Z b := fun b hb => by rw [f3 b (by omega)]; exact yR b hb
    have w191 : ∀ q, q ≠ 1 + m → ¬ (31 + 8 * m + 0 ≤ q ∧ q < 39 + 8 * m) → ¬ (111 + 8 * m + 0 ≤ q ∧ q < 119 + 8 * m) → Z3 191 q = Z 191 q := fun q h1 h2 h3' => by rw [g3 q h2 h3', y191 q h1]
    have K3 : LK m f d N u (fun k => Z 191 (311 + 30 * (8 * m + f) + k)) Z3 := by
      refine ⟨by rw [w0 0 (by omega), w0 22 (by omega)]; exact ⟨a2, a3, a8, a9⟩, by rw [w190]; exact y29, by rw [w0 22 (by omega)]; omega, ⟨by rw [w0 9 (by omega)]; exact ⟨kf2, kf3⟩, ?_⟩, ⟨by rw [wR 205 (by omega)]; exact hf, by rw [wR 206 (by omega), hg, hgd], fun p hp => by rw [w0 0 (by omega)]; exact (hon' p hp).2.2⟩, ⟨d1', by omega, by omega, G, fun k hk => ?_⟩, ?_⟩
      · rw [w0 9 (by omega), wR 196 (by omega), wR 197 (by omega)]
        intro k hk
        have := kf4 k hk
        omega
      · have t0' := hon' 0 (by omega)
        have tw0 : tw u f 0 = f := by
          rcases id G with ⟨rfl, q⟩ | ⟨rfl, q, q'⟩
          · rw [tw_t]; omega
          · rw [tw_f]; omega
        rw [tw0] at t0'
        have hl := ml f t0'.1 t0'.2.1
        have := mc f k t0'.1 t0'.2.1 (by omega)
        show 0 ≤ Z 191 (311 + 30 * (8 * m + f) + k) ∧ Z 191 (311 + 30 * (8 * m + f) + k) ≤ 99
        omega
      · rw [w0 0 (by omega), w0 22 (by omega), wR 205 (by omega), wR 206 (by omega), wR 207 (by omega)]
        intro i hi
        obtain ⟨⟨⟨z1, z2, z3, z4, z5, z6, z7⟩, -, z11, z12, z13, -⟩, -⟩ := hms i hi
        exact ⟨⟨z3, z4, z5, z6⟩, z12, z13⟩
    have O3 : LO m Z3 := by
      intro i hi him
      rw [w0 22 (by omega)] at hi
      rw [wR 205 (by omega), wR 206 (by omega)]
      obtain ⟨⟨⟨z1, z2, z3, z4, z5, z6, z7⟩, ⟨z8, z9, z10⟩, z11, z12, z13, z14, z15, z16, -⟩, ⟨e1', e2', e3', -⟩, ml', -⟩ := hms i hi
      refine ⟨by rw [w191 _ (by omega) (by omega) (by omega)]; omega, fun t h1 h2 => ?_⟩
      have t8 : t < 8 := by
        split at h2 <;> omega
      rw [← z9] at h1
      rw [← z10] at h2
      have := ml' t h1 h2
      rw [w191 _ (by omega) (by omega) (by omega)]
      omega
    have V3 : LV m f d N u (fun k => Z 191 (311 + 30 * (8 * m + f) + k)) (fun _ => T) (Xf d N 0) (Yf d N 0) Z3 := by
      have tw0 : tw u f 0 = f := by
        rcases id G with ⟨rfl, q⟩ | ⟨rfl, q, q'⟩
        · rw [tw_t]; omega
        · rw [tw_f]; omega
      have fz : ∀ p, Yf d N 0 p = 0 := fun p => by
        unfold Yf
        split
        · split <;> rfl
        · split
          · rfl
          · split
            · omega
            · rfl
      have fx : ∀ p, Xf d N 0 p = if p = 0 then N else 0 := fun p => by
        cases p with
        | zero => rfl
        | succ p =>
          rw [if_neg (by omega)]
          by_cases c : d = 1
          · subst c
            rw [Xf1, if_neg (by omega)]
          · rw [Xf2 c, if_pos (by omega)]
      refine ⟨⟨by rw [fx, if_pos rfl], fun p hp => by rw [fx]; split <;> omega⟩, fun p hp => ?_, fun p hp => ?_, fun p hp => ?_, fun p k hp hk => ?_, fun l q hl hq => ?_, ?_⟩
      · have ht := hon' p hp
        rw [(h3 (tw u f p) (by omega) ht.2.2).1, fx]
        by_cases c : p = 0
        · subst c
          rw [if_pos (by rw [tw0]), if_pos rfl, tw0, y191 _ (by omega), hfN]
        · have := tw_inj G hp (Nat.zero_le d) c
          rw [if_neg (by omega), if_neg c]
          rfl
      · have ht := hon' p (by omega)
        have ht2 := hon' (p + 1) (by omega)
        have adj := geo_adj G hp
        rw [(h3 (lkp u f p) (by omega) (by rcases adj with ⟨-, c1, c2⟩ | ⟨-, c1, c2⟩ <;> omega)).2, fz]
        exact ⟨rfl, by omega⟩
      · have ht := hon' p (by omega)
        have ht2 := hon' (p + 1) (by omega)
        have adj := geo_adj G hp
        have lp := lk_lt G hp
        have hpp := mp (lkp u f p) (by rcases adj with ⟨-, c1, c2⟩ | ⟨-, c1, c2⟩ <;> omega) (by rcases adj with ⟨-, c1, c2⟩ | ⟨-, c1, c2⟩ <;> omega)
        rw [w191 _ (by omega) (by omega) (by omega), fz]
        exact ⟨by omega, fun q => by omega⟩
      · rw [fx] at hk
        by_cases c : p = 0
        · subst c
          rw [tw0, w191 _ (by omega) (by omega) (by omega)]
        · rw [if_neg c] at hk
          omega
      · have := hco l q hl (by omega)
        rw [w191 _ (by omega) (by omega) (by omega)]
        exact ⟨this.2.1, this.2.2⟩
      · rw [w191 _ (by omega) (by omega) (by omega)]
        omega
    have st3 : Z3 191 (1 + m) = (if Xf d N 0 d = N then 1 else 0) := by
      have hl0 : ¬ least d N ≤ 0 := by unfold least; split <;> omega
      rw [if_neg (fun q => hl0 ((Xf_least d1' (by omega)).mp q)), g3 _ (by omega) (by omega), yst]
    have tm3 : Z3 191 0 = Z 191 0 := w191 0 (by omega) (by omega) (by omega)
    obtain ⟨Z4, x4, F4⟩ := lone_run L W (least d N) 0 T 0 Z3 (by omega) K3 O3 V3 st3 (by omega) (by omega) hT0 (by omega)
    rw [Int.zero_add] at x4
    obtain ⟨Z5, x5, f5, g5⟩ := c_takeBack L (pm_up Z4 190 29 (-1)) W
    have hs : ∀ b, ¬ (118 ≤ b ∧ b < 190) → b ≠ 192 → b ≠ 210 → b ≠ 211 → Z5 b = Z b := fun b h1 h2 h3' h4 => by
      by_cases c : b = 191
      · subst c
        funext q
        rw [g5 q]
        by_cases cq : q < 2711
        · rw [if_pos cq, pm_up_row (by omega), F4.1 192 (by omega) (by omega) (by omega), f3 192 (by omega), y1 192 (by omega) (by omega), g1 q, if_pos cq]
        · rw [if_neg cq, pm_up_row (by omega), F4.2 q (by omega), g3 q (by omega) (by omega), y191 q (by omega)]
      · rw [f5 b c]
        by_cases c0 : b = 190
        · subst c0
          funext q
          by_cases cq : q = 29
          · subst cq
            rw [pm_up_same]
            exact hon.symm
          · rw [pm_up_ne (by omega), F4.1 190 (by omega) (by omega) (by omega)]
            exact w0 q cq
        · rw [pm_up_row c0, F4.1 b c h3' h4, f3 b c, y1 b c0 c, f1 b h2]
    refine ⟨(least d N : Int), Z, W, Z5, W, by omega, ?_, ?_, Inv.up (Inv_of hI hs), rfl, hs _ (by omega) (by omega) (by omega) (by omega)⟩
    · simp (disch := first | assumption | decide +kernel | omega | (split <;> omega)) only [q_100_0, q_100_1, q_100_4, q_100_5, q_100_8, q_100_11, q_100_13, q_100_14, q_100_15, q_100_18, q_100_21, q_100_22, q_100_23, q_100_26, c_hasMessage, pm_some, Option.toList_some, Option.toList_none, List.cons_append, List.nil_append, pm_i0, pm_i1, Nat.reduceAdd, Nat.reduceMul, Int.toNat_natCast, Int.toNat_zero, a7, hm, not_true_eq_false, not_false_eq_true, and_self, true_and, and_true, ↓reduceIte, Int.reduceEq, Int.reduceLT, Int.reduceLE, Int.reduceNeg, Bool.false_eq_true, hcm]
    · have h112 : pm_D (168, 112, [.ref 190, .int (pm_J (m : Int)), .int (pm_J (least d N : Int))], [], pm_hp L Z4 W) = some (some (.int (pm_J (least d N : Int))), pm_hp L Z5 W) := by
        simp (disch := first | assumption | decide +kernel | omega | (split <;> omega)) only [q_168_0, q_168_1, q_168_2, q_168_5, q_168_8, q_168_10, q_168_11, q_168_12, q_168_15, q_168_16, q_168_17, q_168_20, q_168_21, q_168_24, q_168_25, q_168_26, q_168_27, q_168_28, q_168_29, q_168_30, q_168_32, q_168_33, q_168_36, q_168_39, q_168_40, q_168_43, q_168_45, q_168_47, q_168_48, q_168_49, q_168_50, q_168_51, q_168_52, q_168_53, q_168_54, q_168_55, q_168_56, q_168_59, q_168_60, q_168_61, q_168_64, q_168_65, q_168_68, q_168_69, q_168_70, q_168_71, q_168_72, q_168_75, q_168_77, q_168_79, q_168_80, q_168_81, q_168_82, q_168_83, q_168_84, q_168_85, q_168_86, q_168_89, q_168_92, q_168_93, q_168_95, q_168_96, q_168_99, q_168_102, q_168_103, q_168_106, q_168_109, q_168_112, q_168_113, q_168_114, q_168_117, q_168_118, q_168_121, q_168_122, pm_some, Option.toList_some, Option.toList_none, List.cons_append, List.nil_append, pm_i0, pm_i1, Nat.reduceAdd, Nat.reduceMul, Int.toNat_natCast, Int.toNat_zero, not_true_eq_false, not_false_eq_true, and_self, true_and, and_true, ↓reduceIte, Int.reduceEq, Int.reduceLT, Int.reduceLE, Int.reduceNeg, Bool.false_eq_true, x5]
      have h92 : pm_D (168, 92, [.ref 190, .int (pm_J (m : Int)), .int (pm_J (Z 190 0))], [], pm_hp L Z3 W) = pm_D (168, 94, [.ref 190, .int (pm_J (m : Int)), .int (pm_J 0)], [], pm_hp L Z3 W) := by
        simp (disch := first | assumption | decide +kernel | omega | (split <;> omega)) only [q_168_0, q_168_1, q_168_2, q_168_5, q_168_8, q_168_10, q_168_11, q_168_12, q_168_15, q_168_16, q_168_17, q_168_20, q_168_21, q_168_24, q_168_25, q_168_26, q_168_27, q_168_28, q_168_29, q_168_30, q_168_32, q_168_33, q_168_36, q_168_39, q_168_40, q_168_43, q_168_45, q_168_47, q_168_48, q_168_49, q_168_50, q_168_51, q_168_52, q_168_53, q_168_54, q_168_55, q_168_56, q_168_59, q_168_60, q_168_61, q_168_64, q_168_65, q_168_68, q_168_69, q_168_70, q_168_71, q_168_72, q_168_75, q_168_77, q_168_79, q_168_80, q_168_81, q_168_82, q_168_83, q_168_84, q_168_85, q_168_86, q_168_89, q_168_92, q_168_93, q_168_95, q_168_96, q_168_99, q_168_102, q_168_103, q_168_106, q_168_109, q_168_113, q_168_114, q_168_117, q_168_118, q_168_121, q_168_122, pm_some, Option.toList_some, Option.toList_none, List.cons_append, List.nil_append, pm_i0, pm_i1, Nat.reduceAdd, Nat.reduceMul, Int.toNat_natCast, Int.toNat_zero, not_true_eq_false, not_false_eq_true, and_self, true_and, and_true, ↓reduceIte, Int.reduceEq, Int.reduceLT, Int.reduceLE, Int.reduceNeg, Bool.false_eq_true]
      have e2' : (1 + (m : Int)).toNat = 1 + m := by omega
      simp (disch := first | assumption | decide +kernel | omega | (split <;> omega)) only [q_168_0, q_168_1, q_168_2, q_168_5, q_168_8, q_168_10, q_168_11, q_168_12, q_168_15, q_168_16, q_168_17, q_168_20, q_168_21, q_168_24, q_168_25, q_168_26, q_168_27, q_168_28, q_168_29, q_168_30, q_168_32, q_168_33, q_168_36, q_168_39, q_168_40, q_168_43, q_168_45, q_168_47, q_168_48, q_168_49, q_168_50, q_168_51, q_168_52, q_168_53, q_168_54, q_168_55, q_168_56, q_168_59, q_168_60, q_168_61, q_168_64, q_168_65, q_168_68, q_168_69, q_168_70, q_168_71, q_168_72, q_168_75, q_168_77, q_168_79, q_168_80, q_168_81, q_168_82, q_168_83, q_168_84, q_168_85, q_168_86, q_168_89, q_168_93, q_168_95, q_168_96, q_168_99, q_168_102, q_168_103, q_168_106, q_168_109, q_168_113, q_168_114, q_168_117, q_168_118, q_168_121, q_168_122, c_noMessage, pm_some, Option.toList_some, Option.toList_none, List.cons_append, List.nil_append, pm_i0, pm_i1, Nat.reduceAdd, Nat.reduceMul, Int.toNat_natCast, Int.toNat_zero, hm, not_true_eq_false, not_false_eq_true, and_self, true_and, and_true, ↓reduceIte, Int.reduceEq, Int.reduceLT, Int.reduceLE, Int.reduceNeg, Bool.false_eq_true, x1, e2']
      rw [← hZ2, x3, h92, x4]
      exact h112
  · refine Op.same hI (-2) (by decide) ?_ ?_
    · simp (disch := first | assumption | decide +kernel | omega | (split <;> omega)) only [q_100_0, q_100_1, q_100_4, q_100_5, q_100_8, q_100_11, q_100_13, q_100_14, q_100_15, q_100_18, q_100_21, q_100_22, q_100_23, q_100_26, c_hasMessage, pm_some, Option.toList_some, Option.toList_none, List.cons_append, List.nil_append, pm_i0, pm_i1, Nat.reduceAdd, Nat.reduceMul, Int.toNat_natCast, Int.toNat_zero, a7, hm, not_true_eq_false, not_false_eq_true, and_self, true_and, and_true, ↓reduceIte, Int.reduceEq, Int.reduceLT, Int.reduceLE, Int.reduceNeg, Bool.false_eq_true]
    · simp (disch := first | assumption | decide +kernel | omega | (split <;> omega)) only [q_168_0, q_168_1, q_168_2, q_168_5, q_168_8, q_168_10, q_168_11, q_168_12, q_168_15, q_168_16, q_168_17, q_168_20, q_168_21, q_168_24, q_168_25, q_168_26, q_168_27, q_168_28, q_168_29, q_168_30, q_168_31, q_168_32, q_168_33, q_168_36, q_168_39, q_168_40, q_168_43, q_168_45, q_168_47, q_168_48, q_168_49, q_168_50, q_168_51, q_168_52, q_168_53, q_168_54, q_168_55, q_168_56, q_168_59, q_168_60, q_168_61, q_168_64, q_168_65, q_168_68, q_168_69, q_168_70, q_168_71, q_168_72, q_168_75, q_168_77, q_168_79, q_168_80, q_168_81, q_168_82, q_168_83, q_168_84, q_168_85, q_168_86, q_168_89, q_168_92, q_168_93, q_168_94, q_168_95, q_168_96, q_168_99, q_168_102, q_168_103, q_168_106, q_168_109, q_168_112, q_168_113, q_168_114, q_168_117, q_168_118, q_168_121, q_168_122, c_noMessage, pm_some, Option.toList_some, Option.toList_none, List.cons_append, List.nil_append, pm_i0, pm_i1, Nat.reduceAdd, Nat.reduceMul, Int.toNat_natCast, Int.toNat_zero, hm, not_true_eq_false, not_false_eq_true, and_self, true_and, and_true, ↓reduceIte, Int.reduceEq, Int.reduceLT, Int.reduceLE, Int.reduceNeg, Bool.false_eq_true]
