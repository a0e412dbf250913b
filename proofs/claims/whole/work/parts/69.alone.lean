/-! a message alone on the line -/
/-- the tower, and the link, at distance p from the first tower -/
def tw (u : Bool) (f p : Nat) : Nat := if u = true then f + p else f - p
def lkp (u : Bool) (f p : Nat) : Nat := if u = true then f + p else f - p - 1
def Geo (u : Bool) (f d : Nat) : Prop := (u = true ∧ f + d < 8) ∨ (u = false ∧ d ≤ f ∧ f < 8)
theorem tw_t {f p : Nat} : tw true f p = f + p := rfl
theorem tw_f {f p : Nat} : tw false f p = f - p := rfl
theorem lk_t {f p : Nat} : lkp true f p = f + p := rfl
theorem lk_f {f p : Nat} : lkp false f p = f - p - 1 := rfl
theorem tw_lt {u : Bool} {f d p : Nat} (G : Geo u f d) (h : p ≤ d) : tw u f p < 8 := by
  rcases G with ⟨rfl, q⟩ | ⟨rfl, q, q'⟩
  · rw [tw_t]; omega
  · rw [tw_f]; omega
theorem lk_lt {u : Bool} {f d p : Nat} (G : Geo u f d) (h : p < d) : lkp u f p < 7 := by
  rcases G with ⟨rfl, q⟩ | ⟨rfl, q, q'⟩
  · rw [lk_t]; omega
  · rw [lk_f]; omega
theorem tw_inj {u : Bool} {f d p q : Nat} (G : Geo u f d) (h : p ≤ d) (h' : q ≤ d) (hn : p ≠ q) : tw u f p ≠ tw u f q := by
  rcases G with ⟨rfl, q⟩ | ⟨rfl, q, q'⟩
  · rw [tw_t, tw_t]; omega
  · rw [tw_f, tw_f]; omega
theorem lk_inj {u : Bool} {f d p q : Nat} (G : Geo u f d) (h : p < d) (h' : q < d) (hn : p ≠ q) : lkp u f p ≠ lkp u f q := by
  rcases G with ⟨rfl, q⟩ | ⟨rfl, q, q'⟩
  · rw [lk_t, lk_t]; omega
  · rw [lk_f, lk_f]; omega
theorem geo_adj {u : Bool} {f d p : Nat} (G : Geo u f d) (h : p < d) : (u = true ∧ tw u f p = lkp u f p ∧ tw u f (p + 1) = lkp u f p + 1) ∨ (u = false ∧ tw u f p = lkp u f p + 1 ∧ tw u f (p + 1) = lkp u f p) := by
  rcases G with ⟨rfl, q⟩ | ⟨rfl, q, q'⟩
  · rw [tw_t, tw_t, lk_t]
    exact Or.inl ⟨rfl, by omega, by omega⟩
  · rw [tw_f, tw_f, lk_f]
    exact Or.inr ⟨rfl, by omega, by omega⟩
/-- what stays while it goes on -/
def LK (m f d N : Nat) (u : Bool) (s : Nat → Int) (Z : Nat → Nat → Int) : Prop :=
  (3 ≤ Z 190 0 ∧ Z 190 0 ≤ 8 ∧ 0 ≤ Z 190 22 ∧ Z 190 22 ≤ 10) ∧ Z 190 29 = (m : Int) ∧ (m : Int) < Z 190 22 ∧ ((0 ≤ Z 190 9 ∧ Z 190 9 ≤ 16) ∧ ∀ k : Nat, (k : Int) < Z 190 9 → pm_r (Z 196 k) ∧ pm_r (Z 197 k)) ∧ (Z 205 m = (f : Int) ∧ Z 206 m = (tw u f d : Int) ∧ (∀ p, p ≤ d → (tw u f p : Int) < Z 190 0)) ∧ (1 ≤ d ∧ 1 ≤ N ∧ N ≤ 30 ∧ Geo u f d ∧ ∀ k, k < N → 0 ≤ s k ∧ s k ≤ 99) ∧
  (∀ i : Nat, (i : Int) < Z 190 22 → (0 ≤ Z 205 i ∧ Z 205 i < Z 190 0 ∧ 0 ≤ Z 206 i ∧ Z 206 i < Z 190 0) ∧ (0 ≤ Z 207 i ∧ Z 207 i ≤ 2))
theorem LK_congr {m f d N : Nat} {u : Bool} {s : Nat → Int} {Z Z' : Nat → Nat → Int} (h : LK m f d N u s Z) (h0 : Z' 190 = Z 190) (h5 : Z' 205 = Z 205) (h6 : Z' 206 = Z 206) (h7 : Z' 207 = Z 207) (h8 : Z' 196 = Z 196) (h9 : Z' 197 = Z 197) : LK m f d N u s Z' := by
  unfold LK at h ⊢
  rw [h0, h5, h6, h7, h8, h9]
  exact h
/-- the others -/
def LO (m : Nat) (Z : Nat → Nat → Int) : Prop := ∀ i : Nat, (i : Int) < Z 190 22 → i ≠ m → pm_r (Z 191 (1 + i)) ∧ ∀ t : Nat, (if Z 205 i < Z 206 i then Z 205 i else Z 206 i) ≤ t → (t : Int) ≤ (if Z 205 i < Z 206 i then Z 206 i else Z 205 i) → pm_r (Z 191 (31 + 8 * i + t))
/-- copies X, steps Y, by distance -/
def LV (m f d N : Nat) (u : Bool) (s : Nat → Int) (cb : Nat → Int) (X Y : Nat → Nat) (Z : Nat → Nat → Int) : Prop :=
  (X 0 = N ∧ ∀ p, p ≤ d → X p ≤ N) ∧ (∀ p, p ≤ d → Z 191 (31 + 8 * m + tw u f p) = (X p : Int)) ∧ (∀ p, p < d → Z 191 (111 + 8 * m + lkp u f p) = (Y p : Int) ∧ Y p ≤ 2) ∧ (∀ p, p < d → (0 ≤ Z 191 (191 + 8 * m + lkp u f p) ∧ Z 191 (191 + 8 * m + lkp u f p) ≤ 99) ∧ (Y p = 2 → Z 191 (191 + 8 * m + lkp u f p) = s (X (p + 1)))) ∧ (∀ p k, p ≤ d → k < X p → Z 191 (311 + 30 * (8 * m + tw u f p) + k) = s k) ∧ (∀ l q, l < 7 → q < 3 → 0 ≤ Z 191 (271 + 4 * l + q) ∧ Z 191 (271 + 4 * l + q) ≤ cb l) ∧ (0 ≤ Z 191 (21 + m) ∧ Z 191 (21 + m) ≤ 9000000)
theorem LV_congr {m f d N : Nat} {u : Bool} {s : Nat → Int} {cb cb' : Nat → Int} {X Y X' Y' : Nat → Nat} {Z : Nat → Nat → Int} (h : LV m f d N u s cb X Y Z) (hx : ∀ p, p ≤ d → X' p = X p) (hy : ∀ p, p < d → Y' p = Y p) (hc : ∀ l, l < 7 → cb l ≤ cb' l) : LV m f d N u s cb' X' Y' Z := by
  obtain ⟨⟨h1, h1'⟩, h2, h3, h4, h5, h6, h7⟩ := h
  refine ⟨⟨by rw [hx 0 (Nat.zero_le _)]; exact h1, fun p hp => by rw [hx p hp]; exact h1' p hp⟩, fun p hp => by rw [hx p hp]; exact h2 p hp, fun p hp => by rw [hy p hp]; exact h3 p hp, fun p hp => by rw [hy p hp, hx (p + 1) (by omega)]; exact h4 p hp, fun p k hp hk => h5 p k hp (by rw [hx p hp] at hk; exact hk), fun l q hl hq => ⟨(h6 l q hl hq).1, Int.le_trans (h6 l q hl hq).2 (hc l hl)⟩, h7⟩
def ud (Y : Nat → Nat) (p v q : Nat) : Nat := if q = p then v else Y q
theorem ud_same {Y : Nat → Nat} {p v : Nat} : ud Y p v p = v := if_pos rfl
theorem ud_ne {Y : Nat → Nat} {p v q : Nat} (h : q ≠ p) : ud Y p v q = Y q := if_neg h
theorem LV0 {m f d N p : Nat} {u : Bool} {s : Nat → Int} {cb cb' : Nat → Int} {X Y : Nat → Nat} {Z Z' : Nat → Nat → Int} (hm : m < 10) (G : Geo u f d) (h : LV m f d N u s cb X Y Z) (hn : N ≤ 30) (hp : p < d) (y' : Nat) (hy : y' ≤ 2) (E1 : Z' 191 (111 + 8 * m + lkp u f p) = (y' : Int)) (E2 : 0 ≤ Z' 191 (191 + 8 * m + lkp u f p) ∧ Z' 191 (191 + 8 * m + lkp u f p) ≤ 99) (E3 : y' = 2 → Z' 191 (191 + 8 * m + lkp u f p) = s (X (p + 1))) (E4 : ∀ l q, l < 7 → q < 3 → 0 ≤ Z' 191 (271 + 4 * l + q) ∧ Z' 191 (271 + 4 * l + q) ≤ cb' l) (E5 : ∀ q, q ≠ 111 + 8 * m + lkp u f p → q ≠ 191 + 8 * m + lkp u f p → ¬ (271 ≤ q ∧ q < 311) → Z' 191 q = Z 191 q) : LV m f d N u s cb' X (ud Y p y') Z' := by
  obtain ⟨⟨h1, h1'⟩, h2, h3, h4, h5, h6, h7⟩ := h
  have lp := lk_lt G hp
  refine ⟨⟨h1, h1'⟩, fun q hq => ?_, fun q hq => ?_, fun q hq => ?_, fun q k hq hk => ?_, E4, ?_⟩
  · have := tw_lt G hq
    rw [E5 _ (by omega) (by omega) (by omega)]
    exact h2 q hq
  · have l2 := lk_lt G hq
    by_cases c : q = p
    · subst c
      rw [ud_same]
      exact ⟨E1, hy⟩
    · have := lk_inj G hq hp c
      rw [ud_ne c, E5 _ (by omega) (by omega) (by omega)]
      exact h3 q hq
  · have l2 := lk_lt G hq
    by_cases c : q = p
    · subst c
      rw [ud_same]
      exact ⟨E2, E3⟩
    · have := lk_inj G hq hp c
      rw [ud_ne c, E5 _ (by omega) (by omega) (by omega)]
      exact h4 q hq
  · have := tw_lt G hq
    have := h1' q hq
    rw [E5 _ (by omega) (by omega) (by omega)]
    exact h5 q k hq hk
  · rw [E5 _ (by omega) (by omega) (by omega)]
    exact h7
theorem LV1 {m f d N p : Nat} {u : Bool} {s : Nat → Int} {cb cb' : Nat → Int} {X Y : Nat → Nat} {Z Z' : Nat → Nat → Int} (hm : m < 10) (G : Geo u f d) (h : LV m f d N u s cb X Y Z) (hn : N ≤ 30) (hp : p < d) (hlt : X (p + 1) < X p) (E1 : Z' 191 (111 + 8 * m + lkp u f p) = 0) (E2 : Z' 191 (31 + 8 * m + tw u f (p + 1)) = ((X (p + 1) + 1 : Nat) : Int)) (E3 : Z' 191 (311 + 30 * (8 * m + tw u f (p + 1)) + X (p + 1)) = s (X (p + 1))) (E4 : ∀ l q, l < 7 → q < 3 → 0 ≤ Z' 191 (271 + 4 * l + q) ∧ Z' 191 (271 + 4 * l + q) ≤ cb' l) (E5 : ∀ q, q ≠ 111 + 8 * m + lkp u f p → q ≠ 31 + 8 * m + tw u f (p + 1) → q ≠ 311 + 30 * (8 * m + tw u f (p + 1)) + X (p + 1) → ¬ (271 ≤ q ∧ q < 299) → Z' 191 q = Z 191 q) : LV m f d N u s cb' (ud X (p + 1) (X (p + 1) + 1)) (ud Y p 0) Z' := by
  obtain ⟨⟨h1, h1'⟩, h2, h3, h4, h5, h6, h7⟩ := h
  have lp := lk_lt G hp
  have tp := tw_lt (p := p + 1) G (by omega)
  have hxp := h1' p (by omega)
  refine ⟨⟨by rw [ud_ne (by omega)]; exact h1, fun q hq => ?_⟩, fun q hq => ?_, fun q hq => ?_, fun q hq => ?_, fun q k hq hk => ?_, E4, ?_⟩
  · by_cases c : q = p + 1
    · subst c
      rw [ud_same]
      omega
    · rw [ud_ne c]
      exact h1' q hq
  · have t2 := tw_lt G hq
    by_cases c : q = p + 1
    · subst c
      rw [ud_same]
      exact E2
    · have := tw_inj G hq (show p + 1 ≤ d by omega) c
      rw [ud_ne c, E5 _ (by omega) (by omega) (by omega) (by omega)]
      exact h2 q hq
  · have l2 := lk_lt G hq
    by_cases c : q = p
    · subst c
      rw [ud_same]
      exact ⟨E1, by omega⟩
    · have := lk_inj G hq hp c
      rw [ud_ne c, E5 _ (by omega) (by omega) (by omega) (by omega)]
      exact h3 q hq
  · have l2 := lk_lt G hq
    rw [E5 _ (by omega) (by omega) (by omega) (by omega)]
    by_cases c : q = p
    · subst c
      refine ⟨(h4 q hq).1, fun k => ?_⟩
      rw [ud_same] at k
      omega
    · rw [ud_ne c, ud_ne (show q + 1 ≠ p + 1 by omega)]
      exact h4 q hq
  · have t2 := tw_lt G hq
    have := h1' q hq
    by_cases c : q = p + 1
    · subst c
      rw [ud_same] at hk
      by_cases ck : k = X (p + 1)
      · subst ck
        exact E3
      · rw [E5 _ (by omega) (by omega) (by omega) (by omega)]
        exact h5 (p + 1) k hq (by omega)
    · have := tw_inj G hq (show p + 1 ≤ d by omega) c
      rw [ud_ne c] at hk
      rw [E5 _ (by omega) (by omega) (by omega) (by omega)]
      exact h5 q k hq hk
  · rw [E5 _ (by omega) (by omega) (by omega) (by omega)]
    exact h7
/-- the link at distance p is worked on -/
def act (d : Nat) (X : Nat → Nat) (p : Nat) : Prop := X (p + 1) < X p ∧ (p + 1 = d ∨ ¬ X (p + 2) < X (p + 1))
def actB (d : Nat) (X : Nat → Nat) (p : Nat) : Bool := decide (X (p + 1) < X p) && (decide (p + 1 = d) || !decide (X (p + 2) < X (p + 1)))
theorem act_iff {d : Nat} {X : Nat → Nat} {p : Nat} : actB d X p = true ↔ act d X p := by
  unfold actB act
  simp only [Bool.and_eq_true, Bool.or_eq_true, decide_eq_true_eq, Bool.not_eq_true', decide_eq_false_iff_not]
def nX (d : Nat) (X Y : Nat → Nat) : Nat → Nat
  | 0 => X 0
  | p + 1 => if actB d X p = true ∧ Y p = 2 then X (p + 1) + 1 else X (p + 1)
def nY (d : Nat) (X Y : Nat → Nat) (p : Nat) : Nat := if actB d X p = true then (if Y p = 2 then 0 else Y p + 1) else Y p
/-- with the links below l done -/
def XL (u : Bool) (f d : Nat) (X Y : Nat → Nat) (l : Nat) : Nat → Nat
  | 0 => X 0
  | p + 1 => if lkp u f p < l then nX d X Y (p + 1) else X (p + 1)
def YL (u : Bool) (f d : Nat) (X Y : Nat → Nat) (l p : Nat) : Nat := if lkp u f p < l then nY d X Y p else Y p
theorem rk_only {Z : Nat → Nat → Int} {m : Nat} (h : Z 190 29 = (m : Int)) (t : Int) : ∀ k : Nat, rk_pick Z t k = if m < k ∧ rk_lk Z m t ≠ -6 then ((m : Int), rk_lk Z m t) else (-6, -6)
  | 0 => by rw [if_neg (by omega)]; rfl
  | k + 1 => by
    have ih := rk_only h t k
    rw [rk_pick_succ]
    by_cases c : k = m
    · subst c
      rw [if_neg (by omega)] at ih
      rw [ih]
      by_cases c2 : rk_lk Z k t ≠ -6
      · rw [if_pos ⟨c2, Or.inl (by decide)⟩, if_pos ⟨by omega, c2⟩]
      · rw [if_neg (fun q => c2 q.1), if_neg (fun q => c2 q.2)]
    · have hn : ∀ l, rk_can Z k l = false := fun l => by
        unfold rk_can
        rw [h]
        have : ¬ (m : Int) < 0 := by omega
        have h2 : ¬ (m : Int) = (k : Int) := by omega
        simp [this, h2]
      have hl : rk_lk Z k t = -6 := by
        unfold rk_lk
        simp [hn]
      rw [if_neg (fun q => q.1 hl), ih]
      by_cases c2 : m < k ∧ rk_lk Z m t ≠ -6
      · rw [if_pos c2, if_pos ⟨by omega, c2.2⟩]
      · rw [if_neg c2, if_neg (fun q => c2 ⟨by omega, q.2⟩)]
theorem lone_can {m f d N : Nat} {u : Bool} {s : Nat → Int} {cb : Nat → Int} {X Y : Nat → Nat} {Z : Nat → Nat → Int} (K : LK m f d N u s Z) (V : LV m f d N u s cb X Y Z) (hst : Z 191 (1 + m) = 0) (l : Int) : rk_can Z m l = true ↔ ∃ p, p < d ∧ l = (lkp u f p : Int) ∧ X (p + 1) < X p := by
  obtain ⟨-, k1, k2, -, ⟨k3, k4, k5⟩, ⟨k6, k7, k8, G, -⟩, -⟩ := K
  obtain ⟨⟨h1, h1'⟩, h2, -⟩ := V
  have e : rk_can Z m l = md_can Z m l := by
    unfold rk_can
    rw [k1]
    simp
  rw [e, md_can_iff, k3, k4, hst]
  rcases id G with ⟨rfl, q⟩ | ⟨rfl, q, q'⟩
  · rw [tw_t, if_pos (by omega), if_pos (by omega), if_pos (by omega), if_pos (by omega)]
    constructor
    · rintro ⟨-, g1, g2, g3⟩
      have a1 := h2 (l.toNat - f) (by omega)
      have a2 := h2 (l.toNat - f + 1) (by omega)
      rw [tw_t, show f + (l.toNat - f) = l.toNat by omega] at a1
      rw [tw_t, show f + (l.toNat - f + 1) = (l + 1).toNat by omega] at a2
      refine ⟨l.toNat - f, by omega, by rw [lk_t]; omega, by omega⟩
    · rintro ⟨p, p1, rfl, p2⟩
      have a1 := h2 p (by omega)
      have a2 := h2 (p + 1) (by omega)
      rw [tw_t] at a1 a2
      rw [lk_t]
      refine ⟨rfl, by omega, by omega, ?_⟩
      rw [show (((f + p : Nat) : Int) + 1).toNat = f + (p + 1) by omega, Int.toNat_natCast, a1, a2]
      omega
  · rw [tw_f, if_neg (by omega), if_neg (by omega), if_neg (by omega), if_neg (by omega)]
    constructor
    · rintro ⟨-, g1, g2, g3⟩
      have a1 := h2 (f - 1 - l.toNat) (by omega)
      have a2 := h2 (f - 1 - l.toNat + 1) (by omega)
      rw [tw_f, show f - (f - 1 - l.toNat) = (l + 1).toNat by omega] at a1
      rw [tw_f, show f - (f - 1 - l.toNat + 1) = l.toNat by omega] at a2
      refine ⟨f - 1 - l.toNat, by omega, by rw [lk_f]; omega, by omega⟩
    · rintro ⟨p, p1, rfl, p2⟩
      have a1 := h2 p (by omega)
      have a2 := h2 (p + 1) (by omega)
      rw [tw_f] at a1 a2
      rw [lk_f]
      refine ⟨rfl, by omega, by omega, ?_⟩
      rw [show (((f - p - 1 : Nat) : Int) + 1).toNat = f - p by omega, Int.toNat_natCast, show f - p - 1 = f - (p + 1) by omega, a1, a2]
      omega
/-- both towers of a link take it just when it is worked on -/
theorem lone_lk {m f d N : Nat} {u : Bool} {s : Nat → Int} {cb : Nat → Int} {X Y : Nat → Nat} {Z : Nat → Nat → Int} (K : LK m f d N u s Z) (V : LV m f d N u s cb X Y Z) (hst : Z 191 (1 + m) = 0) (l : Nat) : (rk_lk Z m (l : Int) = (l : Int) ∧ rk_lk Z m ((l : Int) + 1) = (l : Int)) ↔ ∃ p, p < d ∧ l = lkp u f p ∧ act d X p := by
  have hc := lone_can K V hst
  obtain ⟨-, k1, k2, -, ⟨k3, k4, k5⟩, ⟨k6, k7, k8, G, -⟩, -⟩ := K
  have cn : ∀ p : Nat, p < d → (rk_can Z m (lkp u f p : Int) = true ↔ X (p + 1) < X p) := fun p hp => by
    rw [hc]
    constructor
    · rintro ⟨q, q1, q2, q3⟩
      by_cases e : q = p
      · subst e; exact q3
      · have := lk_inj G q1 hp e
        omega
    · intro h
      exact ⟨p, hp, rfl, h⟩
  unfold rk_lk
  rw [k3, k4]
  rcases id G with ⟨rfl, q⟩ | ⟨rfl, q, q'⟩
  · rw [tw_t]
    simp only [if_pos (show (f : Int) < ((f + d : Nat) : Int) by omega)]
    constructor
    · rintro ⟨e1, e2⟩
      have c1 : rk_can Z m (l : Int) = true := by
        by_cases c : rk_can Z m (l : Int) = true
        · exact c
        · rw [if_neg c] at e1
          split at e1 <;> omega
      obtain ⟨p, p1, p2, p3⟩ := (hc _).mp c1
      rw [lk_t] at p2
      refine ⟨p, p1, by rw [lk_t]; omega, p3, ?_⟩
      by_cases c : p + 1 = d
      · exact Or.inl c
      · refine Or.inr (fun h => ?_)
        have := (cn (p + 1) (by omega)).mpr h
        rw [lk_t, show ((f + (p + 1) : Nat) : Int) = (l : Int) + 1 by omega] at this
        rw [if_pos this] at e2
        omega
    · rintro ⟨p, p1, p2, p3, p4⟩
      rw [lk_t] at p2
      have c1 := (cn p p1).mpr p3
      rw [lk_t, show ((f + p : Nat) : Int) = (l : Int) by omega] at c1
      refine ⟨by rw [if_pos c1], ?_⟩
      have c2 : ¬ rk_can Z m ((l : Int) + 1) = true := fun h => by
        obtain ⟨r, r1, r2, r3⟩ := (hc _).mp h
        rw [lk_t] at r2
        have : r = p + 1 := by omega
        subst this
        rcases p4 with h4 | h4
        · omega
        · exact h4 r3
      rw [if_neg c2, show (l : Int) + 1 - 1 = (l : Int) by omega, if_pos c1]
  · rw [tw_f]
    simp only [if_neg (show ¬ (f : Int) < ((f - d : Nat) : Int) by omega)]
    constructor
    · rintro ⟨e1, e2⟩
      have c1 : rk_can Z m (l : Int) = true := by
        by_cases c : rk_can Z m ((l : Int) + 1 - 1) = true
        · rw [show (l : Int) + 1 - 1 = (l : Int) by omega] at c
          exact c
        · rw [if_neg c] at e2
          split at e2 <;> omega
      obtain ⟨p, p1, p2, p3⟩ := (hc _).mp c1
      rw [lk_f] at p2
      refine ⟨p, p1, by rw [lk_f]; omega, p3, ?_⟩
      by_cases c : p + 1 = d
      · exact Or.inl c
      · refine Or.inr (fun h => ?_)
        have := (cn (p + 1) (by omega)).mpr h
        rw [lk_f, show ((f - (p + 1) - 1 : Nat) : Int) = (l : Int) - 1 by omega] at this
        rw [if_pos this] at e1
        omega
    · rintro ⟨p, p1, p2, p3, p4⟩
      rw [lk_f] at p2
      have c1 := (cn p p1).mpr p3
      rw [lk_f, show ((f - p - 1 : Nat) : Int) = (l : Int) by omega] at c1
      have c2 : ¬ rk_can Z m ((l : Int) - 1) = true := fun h => by
        obtain ⟨r, r1, r2, r3⟩ := (hc _).mp h
        rw [lk_f] at r2
        have : r = p + 1 := by omega
        subst this
        rcases p4 with h4 | h4
        · omega
        · exact h4 r3
      refine ⟨by rw [if_neg c2, if_pos c1], ?_⟩
      rw [show (l : Int) + 1 - 1 = (l : Int) by omega, if_pos c1]
