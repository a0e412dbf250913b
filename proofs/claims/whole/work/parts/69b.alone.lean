/-! a message alone: minutes -/
def sO (m q : Nat) : Prop := ¬ (31 + 8 * m ≤ q ∧ q < 39 + 8 * m) ∧ ¬ (111 + 8 * m ≤ q ∧ q < 119 + 8 * m) ∧ ¬ (191 + 8 * m ≤ q ∧ q < 199 + 8 * m) ∧ ¬ (271 ≤ q ∧ q < 311) ∧ ¬ (311 + 240 * m ≤ q ∧ q < 551 + 240 * m)
def LM (m f d N : Nat) (u : Bool) (s : Nat → Int) (B : Int) (X Y : Nat → Nat) (Z0 : Nat → Nat → Int) (l : Nat) (Z : Nat → Nat → Int) : Prop := (∀ a, a ≠ 191 → Z a = Z0 a) ∧ (∀ q, sO m q → Z 191 q = Z0 191 q) ∧ LV m f d N u s (fun l' => B + (if l' < l then 1 else 0)) (XL u f d X Y l) (YL u f d X Y l) Z
/-- the towers' words of the links -/
def LTk (m f d : Nat) (u : Bool) (X : Nat → Nat) (Z0 : Nat → Nat → Int) : Prop := ∀ l : Nat, (l : Int) < Z0 190 0 - 1 → (pm_r (Z0 210 l) ∧ pm_r (Z0 210 (l + 1)) ∧ (0 ≤ Z0 210 l → pm_r (Z0 211 l)) ∧ (0 ≤ Z0 210 (l + 1) → pm_r (Z0 211 (l + 1)))) ∧ ((0 ≤ Z0 210 l ∧ Z0 210 l = Z0 210 (l + 1) ∧ Z0 211 l = (l : Int) ∧ Z0 211 (l + 1) = (l : Int)) ↔ ∃ p, p < d ∧ l = lkp u f p ∧ act d X p) ∧ (0 ≤ Z0 210 l → Z0 210 l = (m : Int))
theorem XL_same {u : Bool} {f d l : Nat} {X Y : Nat → Nat} (hno : ∀ p, p < d → l = lkp u f p → ¬ act d X p) : (∀ p, p ≤ d → XL u f d X Y (l + 1) p = XL u f d X Y l p) ∧ (∀ p, p < d → YL u f d X Y (l + 1) p = YL u f d X Y l p) := by
  refine ⟨fun p hp => ?_, fun p hp => ?_⟩
  · cases p with
    | zero => rfl
    | succ p =>
      show (if lkp u f p < l + 1 then nX d X Y (p + 1) else X (p + 1)) = (if lkp u f p < l then nX d X Y (p + 1) else X (p + 1))
      by_cases c : lkp u f p < l
      · rw [if_pos c, if_pos (by omega)]
      · rw [if_neg c]
        by_cases c2 : lkp u f p < l + 1
        · rw [if_pos c2]
          show (if actB d X p = true ∧ Y p = 2 then X (p + 1) + 1 else X (p + 1)) = _
          rw [if_neg (fun q => hno p (by omega) (by omega) (act_iff.mp q.1))]
        · rw [if_neg c2]
  · show (if lkp u f p < l + 1 then nY d X Y p else Y p) = (if lkp u f p < l then nY d X Y p else Y p)
    by_cases c : lkp u f p < l
    · rw [if_pos c, if_pos (by omega)]
    · rw [if_neg c]
      by_cases c2 : lkp u f p < l + 1
      · rw [if_pos c2]
        unfold nY
        rw [if_neg (fun q => hno p hp (by omega) (act_iff.mp q))]
      · rw [if_neg c2]
theorem XL_step {u : Bool} {f d p : Nat} {X Y : Nat → Nat} (G : Geo u f d) (hp : p < d) : (∀ q, q ≤ d → XL u f d X Y (lkp u f p + 1) q = ud (XL u f d X Y (lkp u f p)) (p + 1) (nX d X Y (p + 1)) q) ∧ (∀ q, q < d → YL u f d X Y (lkp u f p + 1) q = ud (YL u f d X Y (lkp u f p)) p (nY d X Y p) q) := by
  refine ⟨fun q hq => ?_, fun q hq => ?_⟩
  · cases q with
    | zero => rw [ud_ne (by omega)]; rfl
    | succ q =>
      show (if lkp u f q < lkp u f p + 1 then nX d X Y (q + 1) else X (q + 1)) = _
      by_cases c : q = p
      · subst c
        rw [ud_same, if_pos (by omega)]
      · have := lk_inj G (show q < d by omega) hp c
        rw [ud_ne (by omega)]
        show _ = (if lkp u f q < lkp u f p then nX d X Y (q + 1) else X (q + 1))
        by_cases c2 : lkp u f q < lkp u f p
        · rw [if_pos c2, if_pos (by omega)]
        · rw [if_neg c2, if_neg (by omega)]
  · show (if lkp u f q < lkp u f p + 1 then nY d X Y q else Y q) = _
    by_cases c : q = p
    · subst c
      rw [ud_same, if_pos (by omega)]
    · have := lk_inj G hq hp c
      rw [ud_ne c]
      show _ = (if lkp u f q < lkp u f p then nY d X Y q else Y q)
      by_cases c2 : lkp u f q < lkp u f p
      · rw [if_pos c2, if_pos (by omega)]
      · rw [if_neg c2, if_neg (by omega)]
theorem LV_ext {m f d N : Nat} {u : Bool} {s : Nat → Int} {cb : Nat → Int} {X Y : Nat → Nat} {Z Z' : Nat → Nat → Int} (hm : m < 10) (G : Geo u f d) (h : LV m f d N u s cb X Y Z) (hn : N ≤ 30) (e : ∀ q, ¬ (303 ≤ q ∧ q < 311) → q ≠ 0 → ¬ (1 ≤ q ∧ q < 21) → Z' 191 q = Z 191 q) : LV m f d N u s cb X Y Z' := by
  obtain ⟨⟨h1, h1'⟩, h2, h3, h4, h5, h6, h7⟩ := h
  refine ⟨⟨h1, h1'⟩, fun p hp => ?_, fun p hp => ?_, fun p hp => ?_, fun p k hp hk => ?_, fun l q hl hq => ?_, ?_⟩
  · have := tw_lt G hp
    rw [e _ (by omega) (by omega) (by omega)]
    exact h2 p hp
  · have := lk_lt G hp
    rw [e _ (by omega) (by omega) (by omega)]
    exact h3 p hp
  · have := lk_lt G hp
    rw [e _ (by omega) (by omega) (by omega)]
    exact h4 p hp
  · have := tw_lt G hp
    have := h1' p hp
    rw [e _ (by omega) (by omega) (by omega)]
    exact h5 p k hp hk
  · rw [e _ (by omega) (by omega) (by omega)]
    exact h6 l q hl hq
  · rw [e _ (by omega) (by omega) (by omega)]
    exact h7
theorem lone_link {m f d N l : Nat} {u : Bool} {s : Nat → Int} {B : Int} {X Y : Nat → Nat} {Z0 Z : Nat → Nat → Int} (K : LK m f d N u s Z0) (P : LTk m f d u X Z0) (M : LM m f d N u s B X Y Z0 l Z) (hB0 : 0 ≤ B) (hB : B ≤ 900000) (hl : (l : Int) < Z0 190 0 - 1) (v2 v3 : Value) (L : Nat) (W : Nat → Nat) : ∃ (Z' : Nat → Nat → Int) (w2 w3 : Value), pm_D (157, 33, [.ref 190, .int (pm_J (l : Int)), v2, v3], [], pm_hp L Z W) = pm_D (157, 33, [.ref 190, .int (pm_J ((l : Int) + 1)), w2, w3], [], pm_hp L Z' W) ∧ LM m f d N u s B X Y Z0 (l + 1) Z' := by
  obtain ⟨⟨k0, k0', k00, k01⟩, k1, k2, ⟨⟨kf1, kf2⟩, kf3⟩, ⟨k3, k4, k5⟩, ⟨k6, k7, k8, G, ks⟩, k9⟩ := id K
  obtain ⟨M1, M2, V⟩ := id M
  obtain ⟨⟨p1, p2, p3, p4⟩, p5, p6⟩ := P l hl
  have l7 : l < 7 := by omega
  have m10 : m < 10 := by omega
  have z190 := M1 190 (by omega)
  have z0 : Z 190 0 = Z0 190 0 := by rw [z190]
  have z29 : Z 190 29 = (m : Int) := by rw [z190]; exact k1
  have z210 := M1 210 (by omega)
  have z211 := M1 211 (by omega)
  have m0 : ¬ (m : Int) < 0 := by omega
  have m0' : 0 ≤ (m : Int) := by omega
  have hq3 : (271 + 4 * (l : Int) + 3).toNat = 271 + 4 * l + 3 := by omega
  have hid : pm_up Z 191 (271 + 4 * l + 3) (Z 191 (271 + 4 * l + 3) + 0) = Z := pm_up_id _ _ _ (Int.add_zero _)
  have hpre : pm_D (157, 33, [.ref 190, .int (pm_J (l : Int)), v2, v3], [], pm_hp L Z W) = pm_D (157, 90, [.ref 190, .int (pm_J (l : Int)), .int (pm_J 0), v3], [], pm_hp L Z W) := by
    have h : pm_D (157, 33, [.ref 190, .int (pm_J (l : Int)), v2, v3], [], pm_hp L Z W) = pm_D (157, 90, [.ref 190, .int (pm_J (l : Int)), .int (pm_J 0), v3], [], pm_hp L (pm_up Z 191 (271 + 4 * l + 3) (Z 191 (271 + 4 * l + 3) + 0)) W) := by
      rw [q_157_33]
      simp (disch := first | assumption | decide +kernel | omega | (split <;> omega)) only [q_157_0, q_157_1, q_157_4, q_157_5, q_157_6, q_157_7, q_157_8, q_157_11, q_157_14, q_157_15, q_157_18, q_157_21, q_157_22, q_157_23, q_157_24, q_157_25, q_157_28, q_157_31, q_157_32, q_157_34, q_157_35, q_157_38, q_157_39, q_157_40, q_157_43, q_157_44, q_157_47, q_157_50, q_157_51, q_157_52, q_157_55, q_157_58, q_157_59, q_157_62, q_157_63, q_157_64, q_157_65, q_157_68, q_157_71, q_157_72, q_157_73, q_157_74, q_157_75, q_157_76, q_157_77, q_157_78, q_157_79, q_157_80, q_157_83, q_157_84, q_157_87, q_157_88, q_157_89, q_157_91, q_157_94, q_157_95, q_157_96, q_157_99, q_157_100, q_157_103, q_157_104, q_157_105, q_157_106, q_157_109, q_157_110, q_157_111, q_157_112, q_157_113, q_157_116, q_157_117, q_157_120, q_157_121, q_157_122, q_157_123, q_157_126, q_157_127, q_157_130, q_157_131, q_157_132, q_157_133, q_157_134, q_157_135, q_157_138, q_157_139, q_157_142, q_157_143, q_157_144, q_157_145, q_157_148, q_157_149, q_157_152, q_157_153, q_157_154, q_157_157, q_157_158, q_157_159, q_157_160, q_157_163, q_157_166, q_157_169, q_157_170, q_157_173, q_157_174, q_157_175, q_157_176, q_157_177, q_157_178, q_157_179, q_157_180, q_157_181, q_157_182, q_157_183, q_157_186, q_157_189, q_157_190, q_157_191, q_157_194, q_157_197, q_157_198, q_157_199, q_157_200, q_157_203, q_157_204, q_157_205, q_157_208, q_157_209, q_157_210, q_157_211, q_157_214, q_157_215, q_157_216, q_157_219, q_157_222, q_157_223, q_157_226, q_157_227, q_157_228, q_157_229, q_157_230, q_157_231, q_157_232, q_157_235, q_157_237, q_157_238, q_157_239, q_157_240, q_157_243, q_157_244, q_157_245, q_157_246, q_157_249, q_157_252, pm_some, Option.toList_some, Option.toList_none, List.cons_append, List.nil_append, pm_i0, pm_i1, Nat.reduceAdd, Nat.reduceMul, Int.toNat_natCast, Int.toNat_zero, z0, z29, hl, m0, m0', hq3, not_true_eq_false, not_false_eq_true, and_self, true_and, and_true, ↓reduceIte, Int.reduceEq, Int.reduceLT, Int.reduceLE, Int.reduceNeg, Bool.false_eq_true]
    rw [hid] at h
    exact h
  have hbo := r_both (l := l) 0 v3 L Z W l7 (by rw [z210]; exact p1) (by rw [z210]; exact p2) (by rw [z210, z211]; exact p3) (by rw [z210, z211]; exact p4)
  rw [z210, z211] at hbo
  by_cases hb : 0 ≤ Z0 210 l ∧ Z0 210 l = Z0 210 (l + 1) ∧ Z0 211 l = (l : Int) ∧ Z0 211 (l + 1) = (l : Int)
  · obtain ⟨p, hp, hlp, hact⟩ := p5.mp hb
    subst hlp
    have htk : Z 210 (lkp u f p) = (m : Int) := by rw [z210]; exact p6 hb.1
    rw [if_pos hb] at hbo
    obtain ⟨⟨h1, h1'⟩, h2, h3, h4, h5, h6, h7⟩ := id V
    have xb : XL u f d X Y (lkp u f p) (p + 1) = X (p + 1) := if_neg (Nat.lt_irrefl _)
    have yb : YL u f d X Y (lkp u f p) p = Y p := if_neg (Nat.lt_irrefl _)
    have xa : XL u f d X Y (lkp u f p) p = X p := by
      cases p with
      | zero => rfl
      | succ q =>
        show (if lkp u f q < lkp u f (q + 1) then nX d X Y (q + 1) else X (q + 1)) = _
        by_cases c : lkp u f q < lkp u f (q + 1)
        · rw [if_pos c]
          show (if actB d X q = true ∧ Y q = 2 then X (q + 1) + 1 else X (q + 1)) = _
          rw [if_neg]
          intro w
          have := act_iff.mp w.1
          rcases this.2 with h | h
          · omega
          · exact h hact.1
        · rw [if_neg c]
    have hxp := h1' p (by omega)
    rw [xa] at hxp
    have hlt := hact.1
    have e2b := h2 (p + 1) (by omega)
    rw [xb] at e2b
    have e3 := h3 p hp
    rw [yb] at e3
    have e4 := h4 p hp
    rw [yb, xb] at e4
    have e5 := h5 p (X (p + 1)) (by omega) (by rw [xa]; exact hlt)
    have sb := ks (X (p + 1)) (by omega)
    have c0 := h6 (lkp u f p) 0 l7 (by omega)
    have c1 := h6 (lkp u f p) 1 l7 (by omega)
    have c2 := h6 (lkp u f p) 2 l7 (by omega)
    dsimp only at c0 c1 c2
    rw [if_neg (Nat.lt_irrefl _)] at c0 c1 c2
    rw [show 271 + 4 * lkp u f p + 0 = 271 + 4 * lkp u f p from rfl] at c0
    have t8 := tw_lt (p := p + 1) G (by omega)
    have t8' := tw_lt (p := p) G (by omega)
    have hne := tw_inj G (show p ≤ d by omega) (show p + 1 ≤ d by omega) (by omega)
    have z5 := M1 205 (by omega)
    have z6 := M1 206 (by omega)
    have adj := geo_adj G hp
    have hud : (u = true ↔ Z 205 m < Z 206 m) := by
      rw [z5, z6, k3, k4]
      rcases id G with ⟨rfl, q⟩ | ⟨rfl, q, q'⟩
      · rw [tw_t]
        exact ⟨fun _ => by omega, fun _ => rfl⟩
      · rw [tw_f]
        exact ⟨fun h => (Bool.noConfusion h), fun h => by omega⟩
    have HR : rw_ m (lkp u f p) (tw u f p) (tw u f (p + 1)) (X (p + 1) : Int) (s (X (p + 1))) (Y p : Int) (Z 191 (191 + 8 * m + lkp u f p)) (Z 191 (271 + 4 * lkp u f p)) (Z 191 (271 + 4 * lkp u f p + 1)) (Z 191 (271 + 4 * lkp u f p + 2)) (Z 191 (21 + m)) Z := by
      refine ⟨?_, l7, m10, ⟨?_, ?_⟩, ⟨e2b, by omega, by omega⟩, ⟨by rw [Int.toNat_natCast]; exact e5, sb.1, sb.2⟩, ⟨e3.1, by omega, by omega⟩, ⟨rfl, e4.1.1, e4.1.2⟩, ⟨rfl, by omega, by omega⟩, ⟨rfl, by omega, by omega⟩, ⟨rfl, by omega, by omega⟩, ⟨rfl, by omega, by omega⟩⟩
      · rcases adj with ⟨a1, a2, a3⟩ | ⟨a1, a2, a3⟩
        · exact Or.inr ⟨hud.mp a1, a2, a3⟩
        · exact Or.inl ⟨fun h => by rw [hud.mpr h] at a1; exact Bool.noConfusion a1, a2, a3⟩
      · rw [z5, k3]; have := tw_lt (p := 0) G (by omega); constructor <;> have := (k9 m k2).1 <;> omega
      · rw [z6, k4]; have := tw_lt (p := d) G (by omega); constructor <;> omega
    have FR : rf (lkp u f p) (Z 191 (271 + 4 * lkp u f p)) 0 Z := by
      refine ⟨by rw [z190]; exact ⟨kf1, kf2⟩, ?_, by rw [z29]; omega, by rw [z29, if_neg m0], by omega, by omega⟩
      rw [z190, M1 196 (by omega), M1 197 (by omega)]
      exact kf3
    have hcall : ∀ Z', pm_D (155, 0, [.ref 190, .int (pm_J (m : Int)), .int (pm_J (lkp u f p : Int)), .null, .null, .null, .null], [], pm_hp L Z W) = some (none, pm_hp L Z' W) → pm_D (157, 33, [.ref 190, .int (pm_J (lkp u f p : Int)), v2, v3], [], pm_hp L Z W) = pm_D (157, 33, [.ref 190, .int (pm_J ((lkp u f p : Int) + 1)), .int (pm_J 0), .int (pm_J 1)], [], pm_hp L Z' W) := fun Z' e => by
      rw [hpre, hbo]
      simp (disch := first | assumption | decide +kernel | omega | (split <;> omega)) only [q_157_0, q_157_1, q_157_4, q_157_5, q_157_6, q_157_7, q_157_8, q_157_11, q_157_14, q_157_15, q_157_18, q_157_21, q_157_22, q_157_23, q_157_24, q_157_25, q_157_28, q_157_31, q_157_32, q_157_34, q_157_35, q_157_38, q_157_39, q_157_40, q_157_43, q_157_44, q_157_47, q_157_50, q_157_51, q_157_52, q_157_55, q_157_58, q_157_59, q_157_62, q_157_63, q_157_64, q_157_65, q_157_68, q_157_71, q_157_72, q_157_73, q_157_74, q_157_75, q_157_76, q_157_77, q_157_78, q_157_79, q_157_80, q_157_83, q_157_84, q_157_87, q_157_88, q_157_89, q_157_91, q_157_94, q_157_95, q_157_96, q_157_99, q_157_100, q_157_103, q_157_104, q_157_105, q_157_106, q_157_109, q_157_110, q_157_111, q_157_112, q_157_113, q_157_116, q_157_117, q_157_120, q_157_121, q_157_122, q_157_123, q_157_126, q_157_127, q_157_130, q_157_131, q_157_132, q_157_133, q_157_134, q_157_135, q_157_138, q_157_139, q_157_142, q_157_143, q_157_144, q_157_145, q_157_148, q_157_149, q_157_152, q_157_153, q_157_154, q_157_157, q_157_158, q_157_159, q_157_160, q_157_163, q_157_166, q_157_169, q_157_170, q_157_173, q_157_174, q_157_175, q_157_176, q_157_177, q_157_178, q_157_179, q_157_180, q_157_181, q_157_182, q_157_183, q_157_186, q_157_189, q_157_190, q_157_191, q_157_194, q_157_197, q_157_198, q_157_199, q_157_200, q_157_203, q_157_204, q_157_205, q_157_208, q_157_209, q_157_210, q_157_211, q_157_214, q_157_215, q_157_216, q_157_219, q_157_222, q_157_223, q_157_226, q_157_227, q_157_228, q_157_229, q_157_230, q_157_231, q_157_232, q_157_235, q_157_237, q_157_238, q_157_239, q_157_240, q_157_243, q_157_244, q_157_245, q_157_246, q_157_249, q_157_252, pm_some, Option.toList_some, Option.toList_none, List.cons_append, List.nil_append, pm_i0, pm_i1, Nat.reduceAdd, Nat.reduceMul, Int.toNat_natCast, Int.toNat_zero, htk, not_true_eq_false, not_false_eq_true, and_self, true_and, and_true, ↓reduceIte, Int.reduceEq, Int.reduceLT, Int.reduceLE, Int.reduceNeg, Bool.false_eq_true, e]
    have XS := XL_step (X := X) (Y := Y) G hp
    have hcb : ∀ (l' : Nat), B + (if l' < lkp u f p then 1 else 0) ≤ B + (if l' < lkp u f p + 1 then 1 else 0) := fun l' => by
      by_cases c : l' < lkp u f p
      · rw [if_pos c, if_pos (by omega)]; omega
      · rw [if_neg c]; split <;> omega
    have aB : actB d X p = true := act_iff.mpr hact
    have lp6 : lkp u f p < 7 := l7
    rcases (show Y p = 0 ∨ Y p = 1 ∨ Y p = 2 by omega) with y | y | y
    · have e := c_R_work0 L Z W HR FR (by omega)
      refine ⟨wR0 m (lkp u f p) (tw u f p) (s (X (p + 1))) Z, .int (pm_J 0), .int (pm_J 1), hcall _ e, fun a ha => by unfold wR0; rw [pm_up_row ha, pm_up_row ha]; exact M1 a ha, fun q hq => by unfold sO at hq; unfold wR0; rw [pm_up_ne (by omega), pm_up_ne (by omega)]; exact M2 q hq, ?_⟩
      have nx : nX d X Y (p + 1) = X (p + 1) := if_neg (fun q => by omega)
      have ny : nY d X Y p = 1 := by unfold nY; rw [if_pos aB, if_neg (by omega), y]
      refine LV_congr (LV0 m10 G V k8 hp 1 (by omega) ?_ ?_ ?_ ?_ ?_) (fun q hq => ?_) (fun q hq => ?_) (fun l' _ => hcb l')
      · unfold wR0; rw [pm_up_same]; rfl
      · unfold wR0; rw [pm_up_ne (by omega), pm_up_ne (by omega)]; exact e4.1
      · intro h; omega
      · intro l' q hl' hq
        unfold wR0
        rw [pm_up_ne (by omega), pm_up_ne (by omega)]
        exact h6 l' q hl' hq
      · intro q h1 h2 h3
        unfold wR0
        rw [pm_up_ne (by omega), pm_up_ne (by omega)]
      · rw [XS.1 q hq, nx]
        by_cases c : q = p + 1
        · subst c; rw [ud_same, xb]
        · rw [ud_ne c]
      · rw [XS.2 q hq, ny]
    · have e := c_R_work1 L Z W HR FR (by omega)
      have hx : (s (X (p + 1)) + 0) % 100 = s (X (p + 1)) := by omega
      rw [hx] at e
      refine ⟨wR1 m (lkp u f p) (tw u f p) (tw u f (p + 1)) (s (X (p + 1))) (s (X (p + 1))) (Z 191 (271 + 4 * lkp u f p)) Z, .int (pm_J 0), .int (pm_J 1), hcall _ e, fun a ha => by unfold wR1; rw [pm_up_row ha, pm_up_row ha, pm_up_row ha, pm_up_row ha, pm_up_row ha]; exact M1 a ha, fun q hq => by unfold sO at hq; unfold wR1; rw [pm_up_ne (by omega), pm_up_ne (by omega), pm_up_ne (by omega), pm_up_ne (by omega), pm_up_ne (by omega)]; exact M2 q hq, ?_⟩
      have nx : nX d X Y (p + 1) = X (p + 1) := if_neg (fun q => by omega)
      have ny : nY d X Y p = 2 := by unfold nY; rw [if_pos aB, if_neg (by omega), y]
      refine LV_congr (cb := fun l' => B + (if l' < lkp u f p + 1 then 1 else 0)) (LV0 m10 G V k8 hp 2 (by omega) ?_ ?_ ?_ ?_ ?_) (fun q hq => ?_) (fun q hq => ?_) (fun l' _ => Int.le_refl _)
      · unfold wR1; rw [pm_up_same]; rfl
      · unfold wR1; rw [pm_up_ne (by omega), pm_up_ne (by omega), pm_up_ne (by omega), pm_up_same]; exact sb
      · intro _; rw [xb]; unfold wR1; rw [pm_up_ne (by omega), pm_up_ne (by omega), pm_up_ne (by omega), pm_up_same]
      · intro l' q hl' hq
        have h6' := h6 l' q hl' hq
        dsimp only at h6' ⊢
        unfold wR1
        rw [pm_up_ne (by omega), pm_up_ne (by omega), pm_up_ne (by omega), pm_up_ne (by omega)]
        by_cases c : l' = lkp u f p ∧ q = 0
        · rw [c.1, c.2]
          rw [show 271 + 4 * lkp u f p + 0 = 271 + 4 * lkp u f p from rfl, pm_up_same, if_pos (by omega)]
          omega
        · rw [pm_up_ne (by omega)]
          have := hcb l'
          omega
      · intro q h1 h2 h3
        unfold wR1
        rw [pm_up_ne (by omega), pm_up_ne (by omega), pm_up_ne (by omega), pm_up_ne (by omega), pm_up_ne (by omega)]
      · rw [XS.1 q hq, nx]
        by_cases c : q = p + 1
        · subst c; rw [ud_same, xb]
        · rw [ud_ne c]
      · rw [XS.2 q hq, ny]
    · have hh := e4.2 y
      have hx : (Z 191 (191 + 8 * m + lkp u f p) + 0) % 100 = s (X (p + 1)) := by rw [hh]; omega
      have e := c_R_work3 L Z W HR FR (by omega) hx
      rw [hh] at e
      refine ⟨wR3 m (lkp u f p) (tw u f (p + 1)) (X (p + 1) : Int) (s (X (p + 1))) (Z 191 (271 + 4 * lkp u f p)) (Z 191 (271 + 4 * lkp u f p + 2)) Z, .int (pm_J 0), .int (pm_J 1), hcall _ e, fun a ha => by unfold wR3; rw [pm_up_row ha, pm_up_row ha, pm_up_row ha, pm_up_row ha, pm_up_row ha]; exact M1 a ha, fun q hq => by unfold sO at hq; unfold wR3; rw [Int.toNat_natCast, pm_up_ne (by omega), pm_up_ne (by omega), pm_up_ne (by omega), pm_up_ne (by omega), pm_up_ne (by omega)]; exact M2 q hq, ?_⟩
      have nx : nX d X Y (p + 1) = X (p + 1) + 1 := if_pos ⟨aB, y⟩
      have ny : nY d X Y p = 0 := by unfold nY; rw [if_pos aB, if_pos y]
      refine LV_congr (cb := fun l' => B + (if l' < lkp u f p + 1 then 1 else 0)) (LV1 (cb' := fun l' => B + (if l' < lkp u f p + 1 then 1 else 0)) m10 G V k8 hp (by rw [xa, xb]; exact hlt) ?_ ?_ ?_ ?_ ?_) (fun q hq => ?_) (fun q hq => ?_) (fun l' _ => Int.le_refl _)
      · unfold wR3; rw [pm_up_same]
      · rw [xb]
        unfold wR3
        rw [pm_up_ne (by omega), pm_up_ne (by omega), pm_up_same]
        omega
      · rw [xb]
        unfold wR3
        rw [Int.toNat_natCast, pm_up_ne (by omega), pm_up_ne (by omega), pm_up_ne (by omega), pm_up_same]
      · intro l' q hl' hq
        have h6' := h6 l' q hl' hq
        dsimp only at h6' ⊢
        have hcb' := hcb l'
        unfold wR3
        rw [Int.toNat_natCast, pm_up_ne (by omega)]
        by_cases c2' : l' = lkp u f p ∧ q = 2
        · rw [c2'.1, c2'.2, pm_up_same, if_pos (by omega)]
          omega
        · rw [pm_up_ne (by omega), pm_up_ne (by omega), pm_up_ne (by omega)]
          by_cases c : l' = lkp u f p ∧ q = 0
          · rw [c.1, c.2, show 271 + 4 * lkp u f p + 0 = 271 + 4 * lkp u f p from rfl, pm_up_same, if_pos (by omega)]
            omega
          · rw [pm_up_ne (by omega)]
            omega
      · intro q h1 h2 h3 h4
        rw [xb] at h3
        unfold wR3
        rw [Int.toNat_natCast, pm_up_ne (by omega), pm_up_ne (by omega), pm_up_ne (by omega), pm_up_ne (by omega), pm_up_ne (by omega)]
      · rw [XS.1 q hq, nx, xb]
      · rw [XS.2 q hq, ny]
  · rw [if_neg hb] at hbo
    have hno : ∀ p, p < d → l = lkp u f p → ¬ act d X p := fun p h1 h2 h3 => hb (p5.mpr ⟨p, h1, h2, h3⟩)
    obtain ⟨e1, e2⟩ := XL_same (Y := Y) hno
    refine ⟨Z, .int (pm_J 0), .int (pm_J 0), ?_, M1, M2, LV_congr V e1 e2 (fun l' _ => ?_)⟩
    · rw [hpre, hbo]
      simp (disch := first | assumption | decide +kernel | omega | (split <;> omega)) only [q_157_0, q_157_1, q_157_4, q_157_5, q_157_6, q_157_7, q_157_8, q_157_11, q_157_14, q_157_15, q_157_18, q_157_21, q_157_22, q_157_23, q_157_24, q_157_25, q_157_28, q_157_31, q_157_32, q_157_34, q_157_35, q_157_38, q_157_39, q_157_40, q_157_43, q_157_44, q_157_47, q_157_50, q_157_51, q_157_52, q_157_55, q_157_58, q_157_59, q_157_62, q_157_63, q_157_64, q_157_65, q_157_68, q_157_71, q_157_72, q_157_73, q_157_74, q_157_75, q_157_76, q_157_77, q_157_78, q_157_79, q_157_80, q_157_83, q_157_84, q_157_87, q_157_88, q_157_89, q_157_91, q_157_94, q_157_95, q_157_96, q_157_99, q_157_100, q_157_103, q_157_104, q_157_105, q_157_106, q_157_109, q_157_110, q_157_111, q_157_112, q_157_113, q_157_116, q_157_117, q_157_120, q_157_121, q_157_122, q_157_123, q_157_126, q_157_127, q_157_130, q_157_131, q_157_132, q_157_133, q_157_134, q_157_135, q_157_138, q_157_139, q_157_142, q_157_143, q_157_144, q_157_145, q_157_148, q_157_149, q_157_152, q_157_153, q_157_154, q_157_157, q_157_158, q_157_159, q_157_160, q_157_163, q_157_166, q_157_169, q_157_170, q_157_173, q_157_174, q_157_175, q_157_176, q_157_177, q_157_178, q_157_179, q_157_180, q_157_181, q_157_182, q_157_183, q_157_186, q_157_189, q_157_190, q_157_191, q_157_194, q_157_197, q_157_198, q_157_199, q_157_200, q_157_203, q_157_204, q_157_205, q_157_208, q_157_209, q_157_210, q_157_211, q_157_214, q_157_215, q_157_216, q_157_219, q_157_222, q_157_223, q_157_226, q_157_227, q_157_228, q_157_229, q_157_230, q_157_231, q_157_232, q_157_235, q_157_237, q_157_238, q_157_239, q_157_240, q_157_243, q_157_244, q_157_245, q_157_246, q_157_249, q_157_252, pm_some, Option.toList_some, Option.toList_none, List.cons_append, List.nil_append, pm_i0, pm_i1, Nat.reduceAdd, Nat.reduceMul, Int.toNat_natCast, Int.toNat_zero, not_true_eq_false, not_false_eq_true, and_self, true_and, and_true, ↓reduceIte, Int.reduceEq, Int.reduceLT, Int.reduceLE, Int.reduceNeg, Bool.false_eq_true]
    · show B + (if l' < l then 1 else 0) ≤ B + (if l' < l + 1 then 1 else 0)
      by_cases c : l' < l
      · rw [if_pos c, if_pos (by omega)]; omega
      · rw [if_neg c]; split <;> omega
theorem lone_links {m f d N : Nat} {u : Bool} {s : Nat → Int} {B : Int} {X Y : Nat → Nat} {Z0 : Nat → Nat → Int} (K : LK m f d N u s Z0) (P : LTk m f d u X Z0) (hB0 : 0 ≤ B) (hB : B ≤ 900000) (L : Nat) (W : Nat → Nat) : ∀ (n l : Nat) (Z : Nat → Nat → Int) (v2 v3 : Value), (l : Int) + n = Z0 190 0 - 1 → LM m f d N u s B X Y Z0 l Z → ∃ (Z' : Nat → Nat → Int) (w1 : Int) (w2 w3 : Value), pm_D (157, 33, [.ref 190, .int (pm_J (l : Int)), v2, v3], [], pm_hp L Z W) = pm_D (157, 169, [.ref 190, .int (pm_J w1), w2, w3], [], pm_hp L Z' W) ∧ LM m f d N u s B X Y Z0 (Z0 190 0 - 1).toNat Z' := by
  have k0 := K.1
  intro n
  induction n with
  | zero =>
    intro l Z v2 v3 hk M
    have z0 : Z 190 0 = Z0 190 0 := by rw [M.1 190 (by omega)]
    have hlt : ¬ (l : Int) < Z0 190 0 - 1 := by omega
    refine ⟨Z, (l : Int), v2, v3, ?_, by rw [show (Z0 190 0 - 1).toNat = l by omega]; exact M⟩
    rw [q_157_33]
    simp (disch := first | assumption | decide +kernel | omega | (split <;> omega)) only [q_157_0, q_157_1, q_157_4, q_157_5, q_157_6, q_157_7, q_157_8, q_157_11, q_157_14, q_157_15, q_157_18, q_157_21, q_157_22, q_157_23, q_157_24, q_157_25, q_157_28, q_157_31, q_157_32, q_157_34, q_157_35, q_157_38, q_157_39, q_157_40, q_157_43, q_157_44, q_157_47, q_157_50, q_157_51, q_157_52, q_157_55, q_157_58, q_157_59, q_157_62, q_157_63, q_157_64, q_157_65, q_157_68, q_157_71, q_157_72, q_157_73, q_157_74, q_157_75, q_157_76, q_157_77, q_157_78, q_157_79, q_157_80, q_157_83, q_157_84, q_157_87, q_157_88, q_157_89, q_157_90, q_157_91, q_157_94, q_157_95, q_157_96, q_157_99, q_157_100, q_157_103, q_157_104, q_157_105, q_157_106, q_157_109, q_157_110, q_157_111, q_157_112, q_157_113, q_157_116, q_157_117, q_157_120, q_157_121, q_157_122, q_157_123, q_157_126, q_157_127, q_157_130, q_157_131, q_157_132, q_157_133, q_157_134, q_157_135, q_157_138, q_157_139, q_157_142, q_157_143, q_157_144, q_157_145, q_157_148, q_157_149, q_157_152, q_157_153, q_157_154, q_157_157, q_157_158, q_157_159, q_157_160, q_157_163, q_157_166, q_157_170, q_157_173, q_157_174, q_157_175, q_157_176, q_157_177, q_157_178, q_157_179, q_157_180, q_157_181, q_157_182, q_157_183, q_157_186, q_157_189, q_157_190, q_157_191, q_157_194, q_157_197, q_157_198, q_157_199, q_157_200, q_157_203, q_157_204, q_157_205, q_157_208, q_157_209, q_157_210, q_157_211, q_157_214, q_157_215, q_157_216, q_157_219, q_157_222, q_157_223, q_157_226, q_157_227, q_157_228, q_157_229, q_157_230, q_157_231, q_157_232, q_157_235, q_157_237, q_157_238, q_157_239, q_157_240, q_157_243, q_157_244, q_157_245, q_157_246, q_157_249, q_157_252, pm_some, Option.toList_some, Option.toList_none, List.cons_append, List.nil_append, pm_i0, pm_i1, Nat.reduceAdd, Nat.reduceMul, Int.toNat_natCast, Int.toNat_zero, z0, hlt, not_true_eq_false, not_false_eq_true, and_self, true_and, and_true, ↓reduceIte, Int.reduceEq, Int.reduceLT, Int.reduceLE, Int.reduceNeg, Bool.false_eq_true]
  | succ n ih =>
    intro l Z v2 v3 hk M
    obtain ⟨Z1, w2, w3, e1, M1⟩ := lone_link K P M hB0 hB (by omega) v2 v3 L W
    obtain ⟨Z2, x1, x2, x3, e2, M2⟩ := ih (l + 1) Z1 w2 w3 (by omega) M1
    rw [show (((l + 1 : Nat)) : Int) = (l : Int) + 1 by omega] at e2
    exact ⟨Z2, x1, x2, x3, e1.trans e2, M2⟩
theorem lone_rok {m f d N : Nat} {u : Bool} {s : Nat → Int} {cb : Nat → Int} {X Y : Nat → Nat} {Z : Nat → Nat → Int} (K : LK m f d N u s Z) (O : LO m Z) (V : LV m f d N u s cb X Y Z) (hst : pm_r (Z 191 (1 + m))) : rok Z := by
  obtain ⟨⟨k0, k0', k00, k01⟩, k1, k2, -, ⟨k3, k4, k5⟩, ⟨k6, k7, k8, G, ks⟩, k9⟩ := id K
  obtain ⟨⟨h1, h1'⟩, h2, -⟩ := V
  refine ⟨k0, k0', k00, k01, by rw [k1]; omega, fun i hi => ?_⟩
  obtain ⟨q1, q2⟩ := k9 i hi
  by_cases c : i = m
  · subst c
    refine ⟨q1, q2, hst, fun t t1 t2 => ?_⟩
    rw [k3, k4] at t1 t2
    have : ∃ p, p ≤ d ∧ tw u f p = t := by
      rcases id G with ⟨rfl, q⟩ | ⟨rfl, q, q'⟩
      · rw [tw_t, if_pos (by omega)] at t1 t2
        exact ⟨t - f, by omega, by rw [tw_t]; omega⟩
      · rw [tw_f, if_neg (by omega)] at t1 t2
        exact ⟨f - t, by omega, by rw [tw_f]; omega⟩
    obtain ⟨p, p1, p2⟩ := this
    have e := h2 p p1
    have b := h1' p p1
    rw [p2] at e
    rw [e]
    omega
  · exact ⟨q1, q2, (O i hi c).1, (O i hi c).2⟩
