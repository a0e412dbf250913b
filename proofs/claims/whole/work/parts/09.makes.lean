/-! one step of the pure machine, one step of the real one: what makes cells; the library's members -/
theorem pm_new1 (h : pm_H) (k len : Nat) : (pm_new h k len).1 - h.1 = 1 := by show h.1 + 1 - h.1 = 1; omega
theorem pm_new2 (h : pm_H) (k len : Nat) : (pm_new h k len).2.1 - h.2.1 = len := by show h.2.1 + len - h.2.1 = len; omega
theorem pm_newk (h : pm_H) (k len : Nat) : pm_hk (pm_new h k len) h.1 = k := by simp [pm_hk, pm_new]
theorem pm_newl (h : pm_H) (k len : Nat) : pm_hl (pm_new h k len) h.1 = len := by simp [pm_hl, pm_new]
theorem pm_newi (h : pm_H) (k len j : Nat) : pm_hi (pm_new h k len) h.1 j = 0 := by simp [pm_hi, pm_new]
theorem pm_newr (h : pm_H) (k len j : Nat) : pm_hr (pm_new h k len) h.1 j = none := by simp [pm_hr, pm_new]
theorem pm_frame {N0 : Nat} {s : State} {H H' : Heap} {n : Nat} (hz : H.size = N0 + n) (D2 : ∀ q, q < N0 → H[q]? = s.heap[q]?) (ho : ∀ q, q < H.size → H'[q]? = H[q]?) : ∀ q, q < N0 → H'[q]? = s.heap[q]? := fun q hq => (ho q (by rw [hz]; exact Nat.lt_of_lt_of_le hq (Nat.le_add_right _ _))).trans (D2 q hq)
section PM
variable {p : Program} {l : Launch} {e : Env} {R : Room} {s : State} {mi : MethodId} {args : Array Value} {below : List Frame} {meth : Method} {c : Code} {cells slots : Nat} {Q : State → Prop} {N0 b : Nat} {dC : Nat → ClassId} {dI : Nat → Nat → Nat} {cA : Nat → ClassId} {m pc m' pc' : Nat} {ls st ls' st' : List Value} {h h' : pm_H}

theorem pm_s_newarray {at_ : ArrayType} {k : Nat} (E : pm_En m p R s mi args meth c dC dI cA) (hd : decode (pm_b m) pc = .ok (.newarray at_, 2)) (hk1 : 10 ≤ k) (hk2 : k < 13) (hty : newarray.typeOf at_ = pm_ety k) (h1 : pm_newa k m (pc + 2) ls st h = some (.inr (.inl (m', pc', ls', st', h')))) (hcl : cells + (h'.1 - h.1) ≤ R.cells) (hsl : slots + (h'.2.1 - h.2.1) ≤ R.slots) (K : (pm_Kt p l e R s mi args below meth c Q N0 b dC dI cA m (cells + (h'.1 - h.1)) (slots + (h'.2.1 - h.2.1)) pc' ls' st' h')) : (pm_Kt p l e R s mi args below meth c Q N0 b dC dI cA m cells slots pc ls st h) := by
  obtain ⟨hx, hb, hml, hown, hnm, hts, hK, hnf, hnl⟩ := E
  unfold pm_newa at h1
  split at h1
  · split at h1
    · rename_i n st hcond
      obtain ⟨hn0, hn1, hn2⟩ := hcond
      simp only [pm_go, Option.some.injEq, Sum.inr.injEq, Sum.inl.injEq, Prod.mk.injEq] at h1; obtain ⟨rfl, rfl, rfl, rfl, rfl⟩ := h1
      rw [pm_new1] at hcl K
      rw [pm_new2] at hsl K
      have h6 := pm_f6 (k - 10) (by omega)
      rw [show 10 + (k - 10) = k by omega] at h6
      intro H locs rls D
      obtain ⟨D1, D2, D3, D4⟩ := D
      have hRA := (hK.2 _ _ (pm_tys_at cA hk1 (by omega))).2
      refine va_newaK (N := n.toNatClampNeg) hx hb (by rw [hty]; exact hts _ (pm_w_in h6 rfl)) rfl hd rfl (Int32.not_lt.mpr hn0) rfl ?_ hcl hsl rfl fun H' cA' e1 z1 o1 hAr hNm => ?_
      · rw [hty]
        have hcb : componentBytes (pm_ety k) ≤ 4 := by
          rcases (show k = 10 ∨ k = 11 ∨ k = 12 by omega) with rfl | rfl | rfl <;> decide
        exact Nat.le_trans (Nat.mul_le_mul hn1 hcb) (Nat.le_of_ble_eq_true rfl)
      · rw [hty] at e1 hNm
        have hcA : cA' = cA k := by
          rcases (show k = 10 ∨ k = 11 ∨ k = 12 by omega) with rfl | rfl | rfl <;> exact Option.some.inj (hNm.symm.trans hRA)
        subst hcA
        have hdv : defaultValue (pm_ety k) = .int 0 := by
          rcases (show k = 10 ∨ k = 11 ∨ k = 12 by omega) with rfl | rfl | rfl <;> rfl
        rw [D1.1] at e1
        have hc : pm_cell N0 b dC dI cA (pm_new h k n.toNatClampNeg) H' h.1 := by
          refine Or.inr (Or.inl ⟨by rw [pm_newk]; exact hk1, by rw [pm_newk]; exact hk2, ?_⟩)
          rw [pm_newk, pm_newl, e1]
          simp only [pm_newi, hdv]
        have hk := K H' locs rls ⟨D1.push hn2 z1 o1 hc, pm_frame D1.1 D2 o1, D3, D4⟩
        have e5 : List.map (pm_tv N0 b) (Value.ref h.1 :: st) = Value.ref H.size :: st.map (pm_tv N0 b) := by
          rw [List.map_cons]
          show Value.ref (pm_rho N0 b h.1) :: _ = _
          rw [pm_rho_lt (Nat.lt_succ_self _) hn2, D1.1]
        rw [e5] at hk
        exact hk
    · cases h1
  · cases h1
theorem pm_s_anewarray {idx k w : Nat} (E : pm_En m p R s mi args meth c dC dI cA) (hd : decode (pm_b m) pc = .ok (.anewarray idx, 3)) (hk1 : 13 ≤ k) (hk2 : k < 16) (hw : pm_w w (.classLink (pm_own m) idx (pm_eC k)) = true) (h1 : pm_newa k m (pc + 3) ls st h = some (.inr (.inl (m', pc', ls', st', h')))) (hcl : cells + (h'.1 - h.1) ≤ R.cells) (hsl : slots + (h'.2.1 - h.2.1) ≤ R.slots) (K : (pm_Kt p l e R s mi args below meth c Q N0 b dC dI cA m (cells + (h'.1 - h.1)) (slots + (h'.2.1 - h.2.1)) pc' ls' st' h')) : (pm_Kt p l e R s mi args below meth c Q N0 b dC dI cA m cells slots pc ls st h) := by
  obtain ⟨hx, hb, hml, hown, hnm, hts, hK, hnf, hnl⟩ := E
  unfold pm_newa at h1
  split at h1
  · split at h1
    · rename_i n st hcond
      obtain ⟨hn0, hn1, hn2⟩ := hcond
      simp only [pm_go, Option.some.injEq, Sum.inr.injEq, Sum.inl.injEq, Prod.mk.injEq] at h1; obtain ⟨rfl, rfl, rfl, rfl, rfl⟩ := h1
      rw [pm_new1] at hcl K
      rw [pm_new2] at hsl K
      have h7 := pm_f7 (k - 13) (by omega)
      rw [show 13 + (k - 13) = k by omega] at h7
      obtain ⟨j1, -, -, j4⟩ := h7
      intro H locs rls D
      obtain ⟨D1, D2, D3, D4⟩ := D
      have hRA := (hK.2 _ _ (pm_tys_at cA (by omega) hk2)).2
      rw [show ((cA k, pm_ety k) : ClassId × FieldType).2 = .object (pm_eC k) from j4] at hRA
      obtain ⟨-, -, -, -, -, hfa⟩ := hRA
      refine W.anew hx hb hown (hts _ (pm_w_in hw rfl)) (hts _ (pm_w_in j1 rfl)) rfl hd rfl (Int32.not_lt.mpr hn0) (Nat.le_trans (Nat.mul_le_mul hn1 (Nat.le_refl 4)) (Nat.le_of_ble_eq_true rfl)) hcl hsl fun cA' kA comp f1 f2 f3 f4 => ?_
      have hcA : cA' = cA k := Option.some.inj (f1.symm.trans hfa)
      subst hcA
      generalize hH1 : H.push ({ cls := cA k, slots := Array.replicate n.toNatClampNeg .null, vm := .none } : Cell) = H'
      have z1 : H'.size = H.size + 1 := by rw [← hH1, Array.size_push]
      have e1 : H'[H.size]? = some (arrV (cA k) n.toNatClampNeg (fun _ => .null)) := by rw [← hH1, Array.getElem?_push_size, ← arrV_new]
      have o1 : ∀ q : Nat, q < H.size → H'[q]? = H[q]? := fun q hq => by rw [← hH1, Array.getElem?_push, if_neg (Nat.ne_of_lt hq)]
      rw [D1.1] at e1
      have hc : pm_cell N0 b dC dI cA (pm_new h k n.toNatClampNeg) H' h.1 := by
        refine Or.inr (Or.inr ⟨by rw [pm_newk]; exact hk1, by rw [pm_newk]; exact hk2, ?_⟩)
        rw [pm_newk, pm_newl, e1]
        simp only [pm_newr]
        rfl
      have hk := K H' locs rls ⟨D1.push hn2 z1 o1 hc, pm_frame D1.1 D2 o1, D3, D4⟩
      have e5 : List.map (pm_tv N0 b) (Value.ref h.1 :: st) = Value.ref H.size :: st.map (pm_tv N0 b) := by
        rw [List.map_cons]
        show Value.ref (pm_rho N0 b h.1) :: _ = _
        rw [pm_rho_lt (Nat.lt_succ_self _) hn2, D1.1]
      rw [e5] at hk
      exact hk
    · cases h1
  · cases h1
theorem pm_s_new {idx k w : Nat} (E : pm_En m p R s mi args meth c dC dI cA) (hd : decode (pm_b m) pc = .ok (.new idx, 3)) (hk1 : k < 10) (hw : pm_w w (.classLink (pm_own m) idx (pm_C k)) = true) (h1 : pm_newo k m (pc + 3) ls st h = some (.inr (.inl (m', pc', ls', st', h')))) (hcl : cells + (h'.1 - h.1) ≤ R.cells) (hsl : slots + (h'.2.1 - h.2.1) ≤ R.slots) (K : (pm_Kt p l e R s mi args below meth c Q N0 b dC dI cA m (cells + (h'.1 - h.1)) (slots + (h'.2.1 - h.2.1)) pc' ls' st' h')) : (pm_Kt p l e R s mi args below meth c Q N0 b dC dI cA m cells slots pc ls st h) := by
  obtain ⟨hx, hb, hml, hown, hnm, hts, hK, hnf, hnl⟩ := E
  unfold pm_newo at h1
  split at h1
  · rename_i hn2
    simp only [pm_go, Option.some.injEq, Sum.inr.injEq, Sum.inl.injEq, Prod.mk.injEq] at h1; obtain ⟨rfl, rfl, rfl, rfl, rfl⟩ := h1
    rw [pm_new1] at hcl K
    rw [pm_new2] at hsl K
    have h5 := pm_f5 k hk1
    rw [Bool.and_eq_true] at h5
    intro H locs rls D
    obtain ⟨D1, D2, D3, D4⟩ := D
    have hKn := hK.1 _ _ (pm_vw_at hk1)
    refine W.newcK hx hb hown (hts _ (pm_w_in hw rfl)) (hts _ (pm_w_in h5.1 rfl)) (hts _ (pm_w_in h5.2 rfl)) rfl hd hcl hsl hKn.2.1 rfl fun H' kC hkC e1 z1 o1 => ?_
    have hob := u_born (pm_ty k) hts (pm_lay hk1) hKn hkC e1 (fun j hj => pm_f2 k hk1 j hj)
    rw [D1.1] at hob
    have hc : pm_cell N0 b dC dI cA (pm_new h k (pm_N k)) H' h.1 := by
      refine Or.inl ⟨by rw [pm_newk]; exact hk1, ?_⟩
      rw [pm_newk]
      refine hob.to fun j hj => ?_
      unfold pm_fv
      rw [pm_newk, pm_newr, pm_newi]
      rcases pm_f4 k hk1 j hj with ⟨f1, f2⟩ | ⟨f1, f2⟩ | ⟨f1, f2⟩
      · rw [f2, if_neg (by omega)]; rfl
      · rw [f2, if_neg (by omega)]; rfl
      · rw [if_pos f1]
        cases hty : pm_ty k j <;> rw [hty] at f2 <;> first | (cases f2; done) | rfl
    have hk := K H' locs rls ⟨D1.push hn2 z1 o1 hc, pm_frame D1.1 D2 o1, D3, D4⟩
    have e5 : List.map (pm_tv N0 b) (Value.ref h.1 :: st) = Value.ref H.size :: st.map (pm_tv N0 b) := by
      rw [List.map_cons]
      show Value.ref (pm_rho N0 b h.1) :: _ = _
      rw [pm_rho_lt (Nat.lt_succ_self _) hn2, D1.1]
    rw [e5] at hk
    exact hk
  · cases h1
theorem pm_cats (N0 b : Nat) (st : List Value) : ((st.map (pm_tv N0 b)).map fun v => v.category).sum = (st.map Value.category).sum := by
  rw [List.map_map]
  congr 1
  apply List.map_congr_left
  intro v _
  exact pm_tv_cat N0 b v
theorem pm_s_oinit {idx w : Nat} (E : pm_En m p R s mi args meth c dC dI cA) (hd : decode (pm_b m) pc = .ok (.invokespecial idx, 3)) (hw : pm_w w (.methodLink (pm_own m) idx objectInit) = true) (hf : 1 ≤ pm_nf m) (hl : 20 ≤ pm_nl m) (h1 : pm_oinit m (pc + 3) ls st h = some (.inr (.inl (m', pc', ls', st', h')))) (K : (pm_Kt p l e R s mi args below meth c Q N0 b dC dI cA m cells slots pc' ls' st' h')) : (pm_Kt p l e R s mi args below meth c Q N0 b dC dI cA m cells slots pc ls st h) := by
  obtain ⟨hx, hb, hml, hown, hnm, hts, hK, hnf, hnl⟩ := E
  unfold pm_oinit at h1
  split at h1
  · split at h1
    · rename_i a st hcat
      simp only [pm_go, Option.some.injEq, Sum.inr.injEq, Sum.inl.injEq, Prod.mk.injEq] at h1; obtain ⟨rfl, rfl, rfl, rfl, rfl⟩ := h1
      intro H locs rls D
      refine W.objInit hx hb hown (hts _ (pm_w_in hw rfl)) (hts _ (pm_w_in pm_oi1 rfl)) (hts _ (pm_w_in pm_oi2 rfl)) rfl (by rw [hml]; exact D.2.2.2.1) rfl hd (Nat.le_trans hf hnf) ?_ (K H locs rls D)
      show 2 * 0 + ((st.map (pm_tv N0 b)).map fun v => v.category).sum + 12 ≤ R.locals
      rw [pm_cats]
      omega
    · cases h1
  · cases h1
theorem pm_s_mm {idx z w : Nat} (E : pm_En m p R s mi args meth c dC dI cA) (hd : decode (pm_b m) pc = .ok (.invokestatic idx, 3)) (hw : pm_w w (.methodLink (pm_own m) idx (if z = 5 then Lib.Math.max.name else Lib.Math.min.name)) = true) (hf : 1 ≤ pm_nf m) (hl : 21 ≤ pm_nl m) (hcc : cells ≤ R.cells) (hss : slots ≤ R.slots) (h1 : pm_mm z m (pc + 3) ls st h = some (.inr (.inl (m', pc', ls', st', h')))) (K : (pm_Kt p l e R s mi args below meth c Q N0 b dC dI cA m cells slots pc' ls' st' h')) : (pm_Kt p l e R s mi args below meth c Q N0 b dC dI cA m cells slots pc ls st h) := by
  obtain ⟨hx, hb, hml, hown, hnm, hts, hK, hnf, hnl⟩ := E
  unfold pm_mm at h1
  split at h1
  · split at h1
    · rename_i y x st hcat
      simp only [pm_go, Option.some.injEq, Sum.inr.injEq, Sum.inl.injEq, Prod.mk.injEq] at h1; obtain ⟨rfl, rfl, rfl, rfl, rfl⟩ := h1
      intro H locs rls D
      have hlo : ((st.map (pm_tv N0 b)).map fun v => v.category).sum + 13 ≤ R.locals := by
        rw [pm_cats]
        omega
      by_cases hz : z = 5
      · rw [if_pos hz] at hw
        have k := K H locs rls D
        rw [if_pos hz] at k
        exact va_mmax hx hb (by rw [hml]; exact D.2.2.2.1.symm) hown (hts _ (pm_w_in hw rfl)) (hts _ (pm_w_in pm_mm1 rfl)) (hts _ (pm_w_in pm_mm0 rfl)) (hts _ (pm_w_in pm_mm2 rfl)) (Nat.le_trans hf hnf) hlo hcc hss hd k
      · rw [if_neg hz] at hw
        have k := K H locs rls D
        rw [if_neg hz] at k
        exact va_mmin hx hb (by rw [hml]; exact D.2.2.2.1.symm) hown (hts _ (pm_w_in hw rfl)) (hts _ (pm_w_in pm_mm3 rfl)) (hts _ (pm_w_in pm_mm0 rfl)) (hts _ (pm_w_in pm_mm4 rfl)) (Nat.le_trans hf hnf) hlo hcc hss hd k
    · cases h1
  · cases h1
theorem pm_s_acopy {idx w : Nat} (E : pm_En m p R s mi args meth c dC dI cA) (hd : decode (pm_b m) pc = .ok (.invokestatic idx, 3)) (hw : pm_w w (.methodLink (pm_own m) idx arraycopyName) = true) (hf : 1 ≤ pm_nf m) (hl : 26 ≤ pm_nl m) (h1 : pm_acopy m (pc + 3) ls st h = some (.inr (.inl (m', pc', ls', st', h')))) (K : (pm_Kt p l e R s mi args below meth c Q N0 b dC dI cA m cells slots pc' ls' st' h')) : (pm_Kt p l e R s mi args below meth c Q N0 b dC dI cA m cells slots pc ls st h) := by
  obtain ⟨hx, hb, hml, hown, hnm, hts, hK, hnf, hnl⟩ := E
  unfold pm_acopy at h1
  split at h1
  · split at h1
    · rename_i n dp d sp sr st hcond
      obtain ⟨hs, hdd, ks, kd, p1, p2, p3, p4, p5, hcat⟩ := hcond
      simp only [pm_go, Option.some.injEq, Sum.inr.injEq, Sum.inl.injEq, Prod.mk.injEq] at h1; obtain ⟨rfl, rfl, rfl, rfl, rfl⟩ := h1
      intro H locs rls D
      obtain ⟨D1, D2, D3, D4⟩ := D
      show W p l e R s mi args below meth c H locs cells slots Q (F0 mi pc rls (.int n :: .int dp :: .ref (pm_rho N0 b d) :: .int sp :: .ref (pm_rho N0 b sr) :: st.map (pm_tv N0 b)))
      rw [pm_rho_lt hs D1.2.1, pm_rho_lt hdd D1.2.1]
      rcases D1.2.2 sr hs with ⟨g1, -⟩ | ⟨-, -, g2⟩ | ⟨g1, -⟩
      · omega
      · rcases D1.2.2 d hdd with ⟨g3, -⟩ | ⟨g5, g6, g4⟩ | ⟨g3, -⟩
        · omega
        · rw [ks] at g2
          rw [kd] at g4
          have nn : ∀ z : Int32, 0 ≤ z → z.toInt = (z.toNatClampNeg : Int) := by
            intro z hz
            have hz0 : (0 : Int) ≤ z.toInt := by simpa using Int32.le_iff_toInt_le.mp hz
            show z.toInt = ((z.toInt.toNat : Nat) : Int)
            omega
          have hA11 := (hK.2 _ _ (pm_tys_at cA (k := 11) (by decide) (by decide))).1
          obtain ⟨-, k0, hk0, cm0, hkk0⟩ := hA11 (pm_hl h sr) (fun j => .int (pm_hi h sr j))
          obtain ⟨-, k1, hk1, cm1, hkk1⟩ := hA11 (pm_hl h d) (fun j => .int (pm_hi h d j))
          intro T hT X
          obtain ⟨vm', X', step⟩ := X.arraycopy hx hown (hts _ (pm_w_in hw rfl)) (hts _ (pm_w_in pm_ac2 rfl)) (hts _ (pm_w_in pm_ac1 rfl)) (hts _ (pm_w_in pm_ac3 rfl)) (src := N0 + sr) (dst := N0 + d) (cs := arrV (cA 11) (pm_hl h sr) (fun j => .int (pm_hi h sr j))) (cd := arrV (cA 11) (pm_hl h d) (fun j => .int (pm_hi h d j))) (srcPos := sp) (destPos := dp) (n := n) (by rw [hT]; exact g2) (by rw [hT]; exact g4)
            (fun _ h => by cases h) (fun _ h => by cases h) (fun h => by cases h) (fun h => by cases h) hk0 hk1 hkk0 hkk1 rfl (Int32.not_lt.mpr p1) (Int32.not_lt.mpr p2) (Int32.not_lt.mpr p3)
            (by rw [nn sp p1, nn n p3, arrV_size]; omega)
            (by rw [nn dp p2, nn n p3, arrV_size]; omega)
            (fun vm₁ _ i hi => by
              have e : (arrV (cA 11) (pm_hl h sr) (fun j => .int (pm_hi h sr j))).slots.getD (sp.toNatClampNeg + i) .null = .int (pm_hi h sr (sp.toNatClampNeg + i)) := by
                rw [Array.getD_eq_getD_getElem?, arrV_read _ _ (by omega)]
                rfl
              rw [e]
              exact ⟨rfl, trivial⟩)
            (g := F0 mi pc rls (.int n :: .int dp :: .ref (N0 + d) :: .int sp :: .ref (N0 + sr) :: st.map (pm_tv N0 b))) rfl (by rw [hml]; exact D4.1) (rest := st.map (pm_tv N0 b)) rfl (by rw [hb]; exact hd) (Nat.le_trans hf hnf) (by
              show 2 * 0 + ((st.map (pm_tv N0 b)).map fun v => v.category).sum + (nativeFrameWords "java/lang/System" "arraycopy" 5 + 11) ≤ R.locals
              rw [pm_cats, show nativeFrameWords "java/lang/System" "arraycopy" 5 = 7 from by decide +kernel]
              omega)
          have e1 : copied (arrV (cA 11) (pm_hl h sr) (fun j => .int (pm_hi h sr j))) (arrV (cA 11) (pm_hl h d) (fun j => .int (pm_hi h d j))) sp dp n = arrV (cA 11) (pm_hl h d) (fun j => .int (va_cpy (pm_hi h sr) (pm_hi h d) sp.toNatClampNeg dp.toNatClampNeg n.toNatClampNeg j)) := va_copied (fun z => .int z) (cA 11) (cA 11) (pm_hi h sr) (pm_hi h d) p4
          rw [e1] at X' step
          generalize arrV (cA 11) (pm_hl h d) (fun j => .int (va_cpy (pm_hi h sr) (pm_hi h d) sp.toNatClampNeg dp.toNatClampNeg n.toNatClampNeg j)) = cn at X' step e1
          have hlt : N0 + d < H.size := by rw [D1.1]; exact Nat.add_lt_add_left hdd N0
          have hheap : ((T.setVm vm').setCell (N0 + d) cn).heap = H.setIfInBounds (N0 + d) cn := by rw [← hT]; rfl
          have oq : ∀ q : Nat, q ≠ N0 + d → (H.setIfInBounds (N0 + d) cn)[q]? = H[q]? := fun q hq => by simp [Array.getElem?_setIfInBounds, Ne.symm hq]
          have hcn : (H.setIfInBounds (N0 + d) cn)[N0 + d]? = some cn := by simp [Array.getElem?_setIfInBounds, hlt]
          obtain ⟨t, a1, b1⟩ := K _ _ rls ⟨D1.set (a := d) (h' := pm_cpy h sr d sp.toNatClampNeg dp.toNatClampNeg n.toNatClampNeg) (H' := H.setIfInBounds (N0 + d) cn) (by simp) oq rfl (fun q hq => ⟨rfl, by simp [pm_cpy, hq], rfl⟩) (Or.inr (Or.inl ⟨g5, g6, by
              rw [hcn, ← e1]
              show _ = some (arrV (cA (pm_hk h d)) (pm_hl h d) _)
              rw [kd]
              unfold copied
              rw [va_copied (fun z => .int z) (cA 11) (cA 11) (pm_hi h sr) (pm_hi h d) p4]
              congr 2
              funext j
              simp [pm_hi, pm_cpy]
              rfl⟩)), fun q hq => (oq q (Nat.ne_of_lt (Nat.lt_of_lt_of_le hq (Nat.le_add_right _ _)))).trans (D2 q hq), fun q hq => by
              rcases List.mem_append.mp hq with h | h
              · exact D3 q h
              · obtain ⟨z, -, hz⟩ := List.mem_map.mp h
                rw [← hz]
                exact Nat.le_add_right _ _, D4⟩ _ hheap X'
          exact ⟨t, step t a1, b1⟩
        · omega
      · omega
    · cases h1
  · cases h1
end PM
