/-! the pure machine's heap in the real one; what is known of a running method -/
theorem pm_f1 : ∀ k, k < 10 → ∀ j, j < pm_N k → pm_w (pm_lp k j) (u_lay (pm_C k) (pm_T k) j) = true := by decide +kernel
theorem pm_f2 : ∀ k, k < 10 → ∀ j, j < pm_N k → parseFieldDescriptor (pm_T k j).2.2.1 = some (pm_ty k j) := by decide +kernel
theorem pm_f3 : ∀ k, k < 10 → ∀ a, a < pm_N k → ∀ b, b < pm_N k → a ≠ b → (pm_T k a).2.1 ≠ (pm_T k b).2.1 := by decide +kernel
theorem pm_f4 : ∀ k, k < 10 → ∀ j, j < pm_N k → (pm_fz k j = 0 ∧ pm_ty k j = .int) ∨ (pm_fz k j = 2 ∧ pm_ty k j = .boolean) ∨ (pm_fz k j = 1 ∧ (pm_ty k j).isReference = true) := by decide +kernel
theorem pm_f5 : ∀ k, k < 10 → (pm_w (pm_tp k) (.instantiable (pm_C k) (pm_N k)) && pm_w (pm_np k) (.initialized (pm_C k))) = true := by decide +kernel
theorem pm_f6 : ∀ k, k < 3 → pm_w (pm_ap (10 + k)) (.arrayClass (pm_ety (10 + k))) = true := by decide +kernel
theorem pm_f7 : ∀ k, k < 3 → pm_w (pm_ap (13 + k)) (.arrayOver (.object (pm_eC (13 + k)))) = true ∧ pm_C (pm_eK (13 + k)) = pm_eC (13 + k) ∧ pm_eK (13 + k) < 10 ∧ pm_ety (13 + k) = .object (pm_eC (13 + k)) := by decide +kernel
def pm_vw : List vw_C := (List.range 10).map fun k => (pm_C k, pm_T k, pm_N k)
theorem pm_vw_at {k : Nat} (h : k < 10) : pm_vw[k]? = some (pm_C k, pm_T k, pm_N k) := by
  unfold pm_vw
  rw [List.getElem?_map, List.getElem?_range h]
  rfl
def pm_tys (cA : Nat → ClassId) : List (ClassId × FieldType) := (List.range 6).map fun k => (cA (10 + k), pm_ety (10 + k))
theorem pm_tys_at (cA : Nat → ClassId) {k : Nat} (h1 : 10 ≤ k) (h2 : k < 16) : (pm_tys cA)[k - 10]? = some (cA k, pm_ety k) := by
  unfold pm_tys
  rw [List.getElem?_map, List.getElem?_range (by omega)]
  simp only [Option.map_some]
  rw [show 10 + (k - 10) = k by omega]
def pm_rho (N0 b a : Nat) : Nat := if a = pm_scr then b else N0 + a
def pm_tv (N0 b : Nat) (v : Value) : Value := match v with
  | .ref a => .ref (pm_rho N0 b a)
  | v => v
def pm_rv (N0 b : Nat) (r : Option Nat) : Value := va_rf (r.map (pm_rho N0 b))
theorem pm_rv_eq (N0 b : Nat) (r : Option Nat) : pm_tv N0 b (va_rf r) = pm_rv N0 b r := by cases r <;> rfl
theorem pm_tv_cat (N0 b : Nat) (v : Value) : (pm_tv N0 b v).category = v.category := by cases v <;> rfl
def pm_fv (N0 b : Nat) (h : pm_H) (a j : Nat) : Value := if pm_fz (pm_hk h a) j = 1 then pm_rv N0 b (pm_hr h a j) else .int (pm_hi h a j)
def pm_cell (N0 b : Nat) (dC : Nat → ClassId) (dI : Nat → Nat → Nat) (cA : Nat → ClassId) (h : pm_H) (H : Heap) (a : Nat) : Prop :=
  (pm_hk h a < 10 ∧ t_OB (N0 + a) (dC (pm_hk h a)) (pm_N (pm_hk h a)) (dI (pm_hk h a)) H (pm_fv N0 b h a)) ∨
  (10 ≤ pm_hk h a ∧ pm_hk h a < 13 ∧ H[N0 + a]? = some (arrV (cA (pm_hk h a)) (pm_hl h a) (fun j => .int (pm_hi h a j)))) ∨
  (13 ≤ pm_hk h a ∧ pm_hk h a < 16 ∧ H[N0 + a]? = some (arrV (cA (pm_hk h a)) (pm_hl h a) (fun j => pm_rv N0 b (pm_hr h a j))))
def pm_Wd (N0 b : Nat) (dC : Nat → ClassId) (dI : Nat → Nat → Nat) (cA : Nat → ClassId) (h : pm_H) (H : Heap) : Prop := H.size = N0 + h.1 ∧ h.1 ≤ pm_scr ∧ ∀ a, a < h.1 → pm_cell N0 b dC dI cA h H a
/-- two pure heaps that agree at a cell -/
def pm_at (h h' : pm_H) (a : Nat) : Prop := h'.2.2.1 a = h.2.2.1 a ∧ h'.2.2.2.1 a = h.2.2.2.1 a ∧ h'.2.2.2.2 a = h.2.2.2.2 a
theorem pm_cell.kept {N0 b : Nat} {dC : Nat → ClassId} {dI : Nat → Nat → Nat} {cA : Nat → ClassId} {h h' : pm_H} {H H' : Heap} {a : Nat} (hc : pm_cell N0 b dC dI cA h H a) (hh : pm_at h h' a) (hH : H'[N0 + a]? = H[N0 + a]?) : pm_cell N0 b dC dI cA h' H' a := by
  obtain ⟨e1, e2, e3⟩ := hh
  have k1 : pm_hk h' a = pm_hk h a := by unfold pm_hk; rw [e1]
  have k2 : pm_hl h' a = pm_hl h a := by unfold pm_hl; rw [e1]
  have k3 : ∀ j, pm_hi h' a j = pm_hi h a j := fun j => by unfold pm_hi; rw [e2]
  have k4 : ∀ j, pm_hr h' a j = pm_hr h a j := fun j => by unfold pm_hr; rw [e3]
  unfold pm_cell
  rw [k1, k2, hH]
  simp only [k3, k4]
  rcases hc with ⟨g1, g2⟩ | hc | hc
  · refine Or.inl ⟨g1, (g2.kept hH).to fun j _ => ?_⟩
    unfold pm_fv
    rw [k1, k3, k4]
  · exact Or.inr (Or.inl hc)
  · exact Or.inr (Or.inr hc)
theorem pm_Wd.set {N0 b : Nat} {dC : Nat → ClassId} {dI : Nat → Nat → Nat} {cA : Nat → ClassId} {h h' : pm_H} {H H' : Heap} {a : Nat} (hW : pm_Wd N0 b dC dI cA h H) (hz : H'.size = H.size) (ho : ∀ q, q ≠ N0 + a → H'[q]? = H[q]?) (h1 : h'.1 = h.1) (hat : ∀ x, x ≠ a → pm_at h h' x) (hc : pm_cell N0 b dC dI cA h' H' a) : pm_Wd N0 b dC dI cA h' H' := by
  obtain ⟨g1, g2, g3⟩ := hW
  refine ⟨by rw [hz, h1]; exact g1, by rw [h1]; exact g2, fun x hx => ?_⟩
  by_cases hxa : x = a
  · subst hxa; exact hc
  · rw [h1] at hx
    exact (g3 x hx).kept (hat x hxa) (ho _ (by omega))
theorem pm_Wd.push {N0 b : Nat} {dC : Nat → ClassId} {dI : Nat → Nat → Nat} {cA : Nat → ClassId} {h : pm_H} {H H' : Heap} {k len : Nat} (hW : pm_Wd N0 b dC dI cA h H) (hn : h.1 < pm_scr) (hz : H'.size = H.size + 1) (ho : ∀ q, q < H.size → H'[q]? = H[q]?) (hc : pm_cell N0 b dC dI cA (pm_new h k len) H' h.1) : pm_Wd N0 b dC dI cA (pm_new h k len) H' := by
  obtain ⟨g1, g2, g3⟩ := hW
  refine ⟨by rw [hz, g1]; show _ = N0 + (h.1 + 1); omega, by show h.1 + 1 ≤ _; omega, fun x hx => ?_⟩
  have hx : x < h.1 + 1 := hx
  by_cases hxa : x = h.1
  · subst hxa; exact hc
  · refine (g3 x (by omega)).kept ⟨?_, ?_, ?_⟩ (ho _ (by omega))
    · simp [pm_new, hxa]
    · simp [pm_new, hxa]
    · simp [pm_new, hxa]
/-- locals -/
def pm_Lc (N0 b nL : Nat) (rls : Array Slot) (ls : List Value) : Prop := rls.size = nL ∧ lv_wf rls ∧ ls.length = nL ∧ ∀ (i : Nat) (v : Value), ls[i]? = some v → v.category = 1 ∧ (v ≠ .null → rls[i]? = some (.val (pm_tv N0 b v)))
def pm_lv (N0 b : Nat) (ls : List Value) : List (Nat × Value) := ls.zipIdx.filterMap fun q => if q.1 = .null then none else some (q.2, pm_tv N0 b q.1)
theorem pm_lv_mem {N0 b : Nat} {ls : List Value} {j : Nat} {w : Value} : (j, w) ∈ pm_lv N0 b ls ↔ ∃ v, ls[j]? = some v ∧ v ≠ .null ∧ w = pm_tv N0 b v := by
  unfold pm_lv
  rw [List.mem_filterMap]
  constructor
  · rintro ⟨⟨v, i⟩, h1, h2⟩
    rw [List.mk_mem_zipIdx_iff_getElem?] at h1
    by_cases hv : v = .null
    · simp [hv] at h2
    · simp [hv] at h2
      obtain ⟨rfl, rfl⟩ := h2
      exact ⟨v, h1, hv, rfl⟩
  · rintro ⟨v, h1, hv, rfl⟩
    exact ⟨(v, j), List.mk_mem_zipIdx_iff_getElem?.mpr h1, by simp [hv]⟩
theorem pm_Lc.has {N0 b nL : Nat} {rls : Array Slot} {ls : List Value} (h : pm_Lc N0 b nL rls ls) : lv_has rls nL (pm_lv N0 b ls) := by
  refine ⟨h.1, h.2.1, fun q hq => ?_⟩
  obtain ⟨j, w⟩ := q
  obtain ⟨v, h1, h2, rfl⟩ := pm_lv_mem.mp hq
  exact (h.2.2.2 j v h1).2 h2
theorem pm_Lc.store {N0 b nL : Nat} {rls rls' : Array Slot} {ls : List Value} {i : Nat} {v : Value} (h : pm_Lc N0 b nL rls ls) (hv : v.category = 1) (h' : lv_has rls' nL ((i, pm_tv N0 b v) :: (pm_lv N0 b ls).filter (fun q => !(q.1 == i) && !(q.1 + 1 == i && q.2.category == 2)))) : pm_Lc N0 b nL rls' (ls.set i v) := by
  refine ⟨h'.1, h'.2.1, by rw [List.length_set]; exact h.2.2.1, fun j w hj => ?_⟩
  rw [List.getElem?_set] at hj
  by_cases hji : i = j
  · subst hji
    rw [if_pos rfl] at hj
    split at hj
    · cases hj
      exact ⟨hv, fun _ => h'.2.2 (i, pm_tv N0 b v) List.mem_cons_self⟩
    · cases hj
  · rw [if_neg hji] at hj
    refine ⟨(h.2.2.2 j w hj).1, fun hw => ?_⟩
    refine h'.2.2 (j, pm_tv N0 b w) (List.mem_cons_of_mem _ (List.mem_filter.mpr ⟨pm_lv_mem.mpr ⟨w, hj, hw, rfl⟩, ?_⟩))
    have hc := (h.2.2.2 j w hj).1
    rw [pm_tv_cat, hc]
    simp
    exact fun e => hji e.symm
/-- the words that stay true as the machine runs -/
def pm_kind (w : Cond) : Bool := match w with
  | .fieldLinkNest .. => true
  | .methodLinkNest .. => true
  | .arrayOver (.object _) => true
  | w => goodWord w
def pm_ts : List Cond := lw_tbl.filter pm_kind
theorem pm_w_in {i : Nat} {w : Cond} (h : pm_w i w = true) (hk : pm_kind w = true) : w ∈ pm_ts := List.mem_filter.mpr ⟨pm_w_mem h, hk⟩
theorem pm_lay {k : Nat} (hk : k < 10) : ∀ w ∈ u_ws (pm_C k) (pm_T k) (pm_N k), w ∈ pm_ts := by
  intro w hw
  obtain ⟨j, hj, rfl⟩ := List.mem_map.mp hw
  refine pm_w_in (pm_f1 k hk j (List.mem_range.mp hj)) ?_
  unfold u_lay
  split <;> rfl
/-- what the claim's words say, at any state that the machine comes to -/
def pm_Tb (U : State) : Prop := ∀ w ∈ pm_ts, ∀ A : Array Value, w.before A U = true
theorem pm_Tb.moved {s U : State} (hW : s.WarmedH U.vm) (h : pm_Tb s) : pm_Tb U := by
  intro w hw A
  have hk := (List.mem_filter.mp hw).2
  have h0 := h w hw #[]
  unfold pm_kind at hk
  split at hk
  · exact va_Nw.use rfl (va_Nw.warmF hW h0)
  · exact va_Nw.use rfl (va_Nw.warmM hW h0)
  · exact va_AO.use (va_AO.moved hW.alike h0)
  · exact word_at hW (good_of_word hk) h0
