/-! one step of the pure machine, one step of the real one: what reads and writes the heap -/
theorem pm_in_vp {i : Int32} {n : Nat} (h1 : 0 ≤ i) (h2 : i.toNatClampNeg < n) : ¬ (i < 0 ∨ n ≤ i.toNatClampNeg) := by
  rintro (q | q)
  · exact absurd q (Int32.not_lt.mpr h1)
  · omega
theorem pm_oi1 : pm_w 1019 (.instanceMethod objectInit) = true := by decide +kernel
theorem pm_oi2 : pm_w 1020 (.code objectInit ⟨#[0xb1]⟩ 1 none) = true := by decide +kernel
theorem pm_ac1 : pm_w 2188 (.static arraycopyName) = true := by decide +kernel
theorem pm_ac2 : pm_w 2189 (.native arraycopyName) = true := by decide +kernel
theorem pm_ac3 : pm_w 1012 (.initialized "java/lang/System") = true := by decide +kernel
theorem pm_mm0 : pm_w 1011 (.initialized "java/lang/Math") = true := by decide +kernel
theorem pm_mm1 : pm_w 3003 (.static Lib.Math.max.name) = true := by decide +kernel
theorem pm_mm2 : pm_w 3004 (.code Lib.Math.max.name Lib.Math.max.code 2 (some .int)) = true := by decide +kernel
theorem pm_mm3 : pm_w 2185 (.static Lib.Math.min.name) = true := by decide +kernel
theorem pm_mm4 : pm_w 2186 (.code Lib.Math.min.name Lib.Math.min.code 2 (some .int)) = true := by decide +kernel
/-- the script, while the law runs -/
def pm_Sc (N0 b m : Nat) (s : State) (h : pm_H) : Prop := m = pm_law → pm_hk h pm_scr = 11 ∧ va_X b (pm_hl h pm_scr) (pm_hi h pm_scr) s s.heap ∧ b < N0
section PM
variable {p : Program} {l : Launch} {e : Env} {R : Room} {s : State} {mi : MethodId} {args : Array Value} {below : List Frame} {meth : Method} {c : Code} {cells slots : Nat} {Q : State → Prop} {N0 b : Nat} {dC : Nat → ClassId} {dI : Nat → Nat → Nat} {cA : Nat → ClassId} {m pc m' pc' : Nat} {ls st ls' st' : List Value} {h h' : pm_H}
variable {H : Heap} {locs : List Loc} {rls : Array Slot} {rest : List Value}

theorem pm_s_getf {idx x y z w : Nat} (E : pm_En m p R s mi args meth c dC dI cA) (hd : decode (pm_b m) pc = .ok (.getfield idx, 3)) (hc : pm_chkF m idx x y z w = true) (h1 : pm_getf x y z m (pc + 3) ls st h = some (.inr (.inl (m', pc', ls', st', h')))) (K : (pm_Kt p l e R s mi args below meth c Q N0 b dC dI cA m cells slots pc' ls' st' h')) : (pm_Kt p l e R s mi args below meth c Q N0 b dC dI cA m cells slots pc ls st h) := by
  obtain ⟨hx, hb, hml, hown, hnm, hts, hK, hnf, hnl⟩ := E
  simp only [pm_chkF, Bool.and_eq_true, decide_eq_true_eq] at hc
  obtain ⟨⟨⟨hx10, hy⟩, hz⟩, hlk⟩ := hc
  unfold pm_getf at h1
  split at h1
  · split at h1
    · rename_i a st hcond
      obtain ⟨ha, hka⟩ := hcond
      subst hka
      have main : ∀ (H : Heap) (locs : List Loc) (rls : Array Slot), pm_Dy N0 b dC dI cA m s h H locs rls ls → W p l e R s mi args below meth c H locs cells slots Q (F0 mi (pc + 3) rls (pm_fv N0 b h a y :: st.map (pm_tv N0 b))) → W p l e R s mi args below meth c H locs cells slots Q (F0 mi pc rls (.ref (N0 + a) :: st.map (pm_tv N0 b))) := by
        intro H locs rls D k
        rcases D.1.2.2 a ha with ⟨g1, cell, q1, q2, q3, q4⟩ | ⟨g1, -⟩ | ⟨g1, -⟩
        · obtain ⟨hS, hfc, kC, hkC, hkind⟩ := hK.1 _ _ (pm_vw_at hx10)
          obtain ⟨cf, kf, fi, f, hi, hsl⟩ := hS y hy
          split at hlk
          · refine W.getf hx hb hown (hts _ (pm_w_in hlk rfl)) hi (u_facts hfc hkC (u_lays hts (pm_lay hx10) hy) hi).1 q1 (by rw [q3]; exact fun h => by cases h) (v := pm_fv N0 b h a y) ?_ rfl rfl hd k
            rw [hsl]
            exact q4 y hy
          · refine va_Wgetf hx hb hown (hts _ (pm_w_in hlk rfl)) hi (u_facts hfc hkC (u_lays hts (pm_lay hx10) hy) hi).1 q1 (by rw [q3]; exact fun h => by cases h) (v := pm_fv N0 b h a y) ?_ rfl rfl hd k
            rw [hsl]
            exact q4 y hy
        · omega
        · omega
      split at h1
      · rename_i hz1
        simp only [pm_go, Option.some.injEq, Sum.inr.injEq, Sum.inl.injEq, Prod.mk.injEq] at h1; obtain ⟨rfl, rfl, rfl, rfl, rfl⟩ := h1
        intro H locs rls D
        show W p l e R s mi args below meth c H locs cells slots Q (F0 mi pc rls (.ref (pm_rho N0 b a) :: st.map (pm_tv N0 b)))
        rw [pm_rho_lt ha D.1.2.1]
        refine main H locs rls D ?_
        have e1 : pm_fv N0 b h a y = pm_tv N0 b (va_rf (pm_hr h a y)) := by
          unfold pm_fv
          rw [if_pos (hz.symm.trans hz1), pm_rv_eq]
        rw [e1]
        exact K H locs rls D
      · rename_i hz1
        simp only [pm_go, Option.some.injEq, Sum.inr.injEq, Sum.inl.injEq, Prod.mk.injEq] at h1; obtain ⟨rfl, rfl, rfl, rfl, rfl⟩ := h1
        intro H locs rls D
        show W p l e R s mi args below meth c H locs cells slots Q (F0 mi pc rls (.ref (pm_rho N0 b a) :: st.map (pm_tv N0 b)))
        rw [pm_rho_lt ha D.1.2.1]
        refine main H locs rls D ?_
        have e1 : pm_fv N0 b h a y = .int (pm_hi h a y) := by
          unfold pm_fv
          rw [if_neg (fun q => hz1 (hz.trans q))]
        rw [e1]
        exact K H locs rls D
    · cases h1
  · cases h1
theorem pm_s_putv {idx x y z w a : Nat} {v : Value} (E : pm_En m p R s mi args meth c dC dI cA) (hd : decode (pm_b m) pc = .ok (.putfield idx, 3)) (hc : pm_chkF m idx x y z w = true) (hp : pm_chkP m x y w = true) (D1 : pm_Wd N0 b dC dI cA h H) (ha : a < h.1) (hka : pm_hk h a = x) (hn : narrow (pm_ty x y) v = v) (hfit : fits (pm_ty x y) v = true)
    (kk : ∀ (H' : Heap) (o : Nat), H'.size = H.size → (∀ q, q ≠ N0 + a → H'[q]? = H[q]?) → t_OB (N0 + a) (dC x) (pm_N x) (dI x) H' (updV (pm_fv N0 b h a) y v) → W p l e R s mi args below meth c H' (locs ++ [⟨N0 + a, o⟩]) cells slots Q (F0 mi (pc + 3) rls rest)) : W p l e R s mi args below meth c H locs cells slots Q (F0 mi pc rls (v :: .ref (N0 + a) :: rest)) := by
  obtain ⟨hx, hb, hml, hown, hnm, hts, hK, hnf, hnl⟩ := E
  simp only [pm_chkF, Bool.and_eq_true, decide_eq_true_eq] at hc
  obtain ⟨⟨⟨hx10, hy⟩, hz⟩, hlk⟩ := hc
  subst hka
  have hap := va_apart (own := "") hts (pm_lay hx10) (pm_ty (pm_hk h a)) (fun k hk => pm_f2 _ hx10 k hk) (fun a ha b hb => pm_f3 _ hx10 a ha b hb) hK (pm_vw_at hx10)
  rcases D1.2.2 a ha with ⟨g1, cell, q1, q2, q3, q4⟩ | ⟨g1, -⟩ | ⟨g1, -⟩
  · obtain ⟨hS, hfc, kC, hkC, hkind⟩ := hK.1 _ _ (pm_vw_at hx10)
    obtain ⟨cf, kf, fi, f, hi, hsl⟩ := hS y hy
    have hlay := hts _ (pm_lay hx10 _ (u_in_lay hy))
    unfold u_lay at hlay
    have hst := (u_facts hfc hkC (u_lays hts (pm_lay hx10) hy) hi).1
    have fin : ∀ (H' : Heap), H'[N0 + a]? = some (cell.setSlot f.slot v) → H'.size = H.size → (∀ q, q ≠ N0 + a → H'[q]? = H[q]?) → W p l e R s mi args below meth c H' (locs ++ [⟨N0 + a, f.slot⟩]) cells slots Q (F0 mi (pc + 3) rls rest) := by
      intro H' e1 e2 e3
      rw [hsl] at e1
      exact kk H' f.slot e2 e3 ⟨_, e1, q2, q3, t_set q4 hap hy v⟩
    by_cases hfin : (pm_T (pm_hk h a) y).2.2.2 = true
    · rw [if_pos hfin] at hlay
      unfold pm_chkP at hp
      rw [if_pos hfin] at hp
      simp only [Bool.and_eq_true, decide_eq_true_eq] at hp
      obtain ⟨⟨hin2, hdecl⟩, hw⟩ := hp
      have hnm : meth.name = (pm_y m).name := hnm.resolve_left (fun q => by rw [q] at hin2; exact absurd hin2 (by decide +kernel))
      rw [if_pos hw] at hlk
      have hcf : mi.cls = cf := by
        obtain ⟨_, _, c', _, _, _, -, -, hf', -, -, -, hown2, -⟩ := Cond.laysFinal_spec hlay
        have e1 : c' = cf := by have := hi.symm.trans hf'; simp at this; exact this.1.symm
        rw [hdecl] at hown2
        rw [← e1]; exact Option.some.inj (hown.symm.trans hown2)
      have h6 := u_fits hfc hkC hkind (Or.inr hlay) hi (pm_f2 _ hx10 y hy) hn hfit
      exact W.putFinK hx hb hown (hts _ (pm_w_in hlk rfl)) hi hst hcf (hnm.trans hin2) (by rw [q2]; exact h6) q1 q3 (by rw [hsl]; exact k2_hasslot (q4 y hy)) rfl rfl hd fin
    · rw [if_neg hfin] at hlay
      have h6 := u_store hfc hkC hkind hlay hi (pm_f2 _ hx10 y hy) hn hfit
      split at hlk
      · exact W.putK hx hb (f := f) ⟨hown, hts _ (pm_w_in hlk rfl), ⟨_, _, _, hi⟩, hst⟩ (by rw [q2]; exact h6) q1 q3 (by rw [hsl]; exact k2_hasslot (q4 y hy)) rfl rfl hd fin
      · exact va_WputK hx hb (f := f) hown (hts _ (pm_w_in hlk rfl)) hi hst (by rw [q2]; exact h6) q1 q3 (by rw [hsl]; exact k2_hasslot (q4 y hy)) rfl rfl hd fin
  · omega
  · omega
theorem pm_locs {N0 a o : Nat} {locs : List Loc} (h : ∀ x ∈ locs, N0 ≤ x.base) : ∀ x ∈ locs ++ [(⟨N0 + a, o⟩ : Loc)], N0 ≤ x.base := by
  intro x hx
  rcases List.mem_append.mp hx with hx | hx
  · exact h x hx
  · rw [List.mem_singleton.mp hx]; exact Nat.le_add_right _ _
theorem pm_s_putf {idx x y z w : Nat} (E : pm_En m p R s mi args meth c dC dI cA) (hd : decode (pm_b m) pc = .ok (.putfield idx, 3)) (hc : pm_chkF m idx x y z w = true) (hp : pm_chkP m x y w = true) (h1 : pm_putf x y z m (pc + 3) ls st h = some (.inr (.inl (m', pc', ls', st', h')))) (K : (pm_Kt p l e R s mi args below meth c Q N0 b dC dI cA m cells slots pc' ls' st' h')) : (pm_Kt p l e R s mi args below meth c Q N0 b dC dI cA m cells slots pc ls st h) := by
  obtain ⟨hx, hb, hml, hown, hnm, hts, hK, hnfr, hnl⟩ := E
  have hc0 := hc
  simp only [pm_chkF, Bool.and_eq_true, decide_eq_true_eq] at hc0
  obtain ⟨⟨⟨hx10, hy⟩, hz⟩, -⟩ := hc0
  unfold pm_putf at h1
  split at h1
  · split at h1
    · rename_i v a st hcond
      obtain ⟨ha, hka, hzz⟩ := hcond
      simp only [pm_go, Option.some.injEq, Sum.inr.injEq, Sum.inl.injEq, Prod.mk.injEq] at h1; obtain ⟨rfl, rfl, rfl, rfl, rfl⟩ := h1
      intro H locs rls D
      obtain ⟨D1, D2, D3, D4⟩ := D
      show W p l e R s mi args below meth c H locs cells slots Q (F0 mi pc rls (.int v :: .ref (pm_rho N0 b a) :: st.map (pm_tv N0 b)))
      rw [pm_rho_lt ha D1.2.1]
      have hnf : narrow (pm_ty x y) (.int v) = .int v ∧ fits (pm_ty x y) (.int v) = true := by
        rcases pm_f4 x hx10 y hy with ⟨f1, f2⟩ | ⟨f1, f2⟩ | ⟨f1, f2⟩
        · rw [f2]; exact ⟨rfl, rfl⟩
        · rw [f2]
          rcases hzz with hzz | ⟨-, rfl | rfl⟩
          · omega
          · exact ⟨rfl, rfl⟩
          · exact ⟨rfl, rfl⟩
        · rcases hzz with hzz | ⟨hzz, -⟩ <;> omega
      refine pm_s_putv ⟨hx, hb, hml, hown, hnm, hts, hK, hnfr, hnl⟩ hd hc hp D1 ha hka hnf.1 hnf.2 (fun H' o e2 e3 e4 => ?_)
      refine K H' _ rls ⟨D1.set e2 e3 rfl (fun q hq => ⟨rfl, by simp [pm_setI, hq], rfl⟩) (Or.inl ⟨by show pm_hk h a < 10; rw [hka]; exact hx10, ?_⟩), fun q hq => (e3 q (Nat.ne_of_lt (Nat.lt_of_lt_of_le hq (Nat.le_add_right _ _)))).trans (D2 q hq), pm_locs D3, D4⟩
      show t_OB (N0 + a) (dC (pm_hk h a)) (pm_N (pm_hk h a)) (dI (pm_hk h a)) H' _
      rw [hka]
      refine e4.to (fun j hj => ?_)
      unfold updV pm_fv
      show _ = if pm_fz (pm_hk h a) j = 1 then pm_rv N0 b (pm_hr h a j) else .int (pm_hi (pm_setI h a y v) a j)
      by_cases hjy : j = y
      · subst hjy
        rw [if_pos rfl, hka, if_neg (by rcases hzz with hzz | ⟨hzz, -⟩ <;> omega)]
        simp [pm_hi, pm_setI, upd]
      · rw [if_neg hjy]
        simp [pm_hi, pm_setI, upd, hjy]
    · cases h1
  · split at h1
    · rename_i v a st hcond
      obtain ⟨ha, hka, hzz⟩ := hcond
      simp only [pm_go, Option.some.injEq, Sum.inr.injEq, Sum.inl.injEq, Prod.mk.injEq] at h1; obtain ⟨rfl, rfl, rfl, rfl, rfl⟩ := h1
      intro H locs rls D
      obtain ⟨D1, D2, D3, D4⟩ := D
      show W p l e R s mi args below meth c H locs cells slots Q (F0 mi pc rls (.ref (pm_rho N0 b v) :: .ref (pm_rho N0 b a) :: st.map (pm_tv N0 b)))
      rw [pm_rho_lt ha D1.2.1]
      have hnf : narrow (pm_ty x y) (.ref (pm_rho N0 b v)) = .ref (pm_rho N0 b v) ∧ fits (pm_ty x y) (.ref (pm_rho N0 b v)) = true := by
        rcases pm_f4 x hx10 y hy with ⟨f1, f2⟩ | ⟨f1, f2⟩ | ⟨f1, f2⟩
        · omega
        · omega
        · cases hty : pm_ty x y <;> rw [hty] at f2 <;> first | (cases f2; done) | exact ⟨rfl, rfl⟩
      refine pm_s_putv ⟨hx, hb, hml, hown, hnm, hts, hK, hnfr, hnl⟩ hd hc hp D1 ha hka hnf.1 hnf.2 (fun H' o e2 e3 e4 => ?_)
      refine K H' _ rls ⟨D1.set e2 e3 rfl (fun q hq => ⟨rfl, rfl, by simp [pm_setR, hq]⟩) (Or.inl ⟨by show pm_hk h a < 10; rw [hka]; exact hx10, ?_⟩), fun q hq => (e3 q (Nat.ne_of_lt (Nat.lt_of_lt_of_le hq (Nat.le_add_right _ _)))).trans (D2 q hq), pm_locs D3, D4⟩
      show t_OB (N0 + a) (dC (pm_hk h a)) (pm_N (pm_hk h a)) (dI (pm_hk h a)) H' _
      rw [hka]
      refine e4.to (fun j hj => ?_)
      unfold updV pm_fv
      show _ = if pm_fz (pm_hk h a) j = 1 then pm_rv N0 b (pm_hr (pm_setR h a y (some v)) a j) else .int (pm_hi h a j)
      by_cases hjy : j = y
      · subst hjy
        rw [if_pos rfl, hka, if_pos (by omega)]
        simp [pm_hr, pm_setR, va_up, pm_rv, va_rf]
      · rw [if_neg hjy]
        simp [pm_hr, pm_setR, va_up, hjy]
    · cases h1
  · cases h1
theorem pm_s_iaload (E : pm_En m p R s mi args meth c dC dI cA) (hSc : pm_Sc N0 b m s h) (hd : decode (pm_b m) pc = .ok (.iaload, 1)) (h1 : pm_ald 11 m (pc + 1) ls st h = some (.inr (.inl (m', pc', ls', st', h')))) (K : (pm_Kt p l e R s mi args below meth c Q N0 b dC dI cA m cells slots pc' ls' st' h')) : (pm_Kt p l e R s mi args below meth c Q N0 b dC dI cA m cells slots pc ls st h) := by
  obtain ⟨hx, hb, hml, hown, hnm, hts, hK, hnf, hnl⟩ := E
  unfold pm_ald at h1
  split at h1
  · split at h1
    · rename_i i a st hcond
      obtain ⟨hrd, hka, hi1, hi2⟩ := hcond
      simp only [pm_rdb, Bool.or_eq_true, Bool.and_eq_true, decide_eq_true_eq] at hrd
      simp only [pm_go, Option.some.injEq, Sum.inr.injEq, Sum.inl.injEq, Prod.mk.injEq] at h1; obtain ⟨rfl, rfl, rfl, rfl, rfl⟩ := h1
      intro H locs rls D
      show W p l e R s mi args below meth c H locs cells slots Q (F0 mi pc rls (.int i :: .ref (pm_rho N0 b a) :: st.map (pm_tv N0 b)))
      rcases hrd with ha | hrd
      · rw [pm_rho_lt ha D.1.2.1]
        rcases D.1.2.2 a ha with ⟨g1, -⟩ | ⟨g0, g1, g2⟩ | ⟨g1, -⟩
        · omega
        · refine W.iald (v := .int (pm_hi h a i.toNatClampNeg)) hx hb g2 ?_ (fun q => by cases q) ?_ ?_ rfl rfl hd (K H locs rls D)
          · have := (hK.2 _ _ (pm_tys_at cA g0 (by omega))).1 (pm_hl h a) (fun j => .int (pm_hi h a j))
            rw [hka] at this ⊢
            exact this
          · rw [arrV_size]; exact pm_in_vp hi1 hi2
          · exact arrV_read _ _ hi2
        · omega
      · obtain ⟨hsc, hmm⟩ := hrd
        subst hsc
        obtain ⟨s1, ⟨scr, x1, x2, x3, x4, x5⟩, s3⟩ := hSc hmm
        refine W.iald (v := .int (pm_hi h pm_scr i.toNatClampNeg)) hx hb (a := b) (cell := scr) (by rw [D.2.1 b s3]; exact x1) x2 x3 (by rw [x4]; exact pm_in_vp hi1 hi2) (x5 _ hi2) rfl (by show _ = _; unfold pm_rho; rw [if_pos rfl]) hd ?_
        exact K H locs rls D
    · cases h1
  · cases h1
theorem pm_s_baload (E : pm_En m p R s mi args meth c dC dI cA) (hSc : pm_Sc N0 b m s h) (hd : decode (pm_b m) pc = .ok (.baload, 1)) (h1 : pm_ald 12 m (pc + 1) ls st h = some (.inr (.inl (m', pc', ls', st', h')))) (K : (pm_Kt p l e R s mi args below meth c Q N0 b dC dI cA m cells slots pc' ls' st' h')) : (pm_Kt p l e R s mi args below meth c Q N0 b dC dI cA m cells slots pc ls st h) := by
  obtain ⟨hx, hb, hml, hown, hnm, hts, hK, hnf, hnl⟩ := E
  unfold pm_ald at h1
  split at h1
  · split at h1
    · rename_i i a st hcond
      obtain ⟨hrd, hka, hi1, hi2⟩ := hcond
      simp only [pm_rdb, Bool.or_eq_true, Bool.and_eq_true, decide_eq_true_eq] at hrd
      simp only [pm_go, Option.some.injEq, Sum.inr.injEq, Sum.inl.injEq, Prod.mk.injEq] at h1; obtain ⟨rfl, rfl, rfl, rfl, rfl⟩ := h1
      intro H locs rls D
      show W p l e R s mi args below meth c H locs cells slots Q (F0 mi pc rls (.int i :: .ref (pm_rho N0 b a) :: st.map (pm_tv N0 b)))
      rcases hrd with ha | hrd
      · rw [pm_rho_lt ha D.1.2.1]
        rcases D.1.2.2 a ha with ⟨g1, -⟩ | ⟨g0, g1, g2⟩ | ⟨g1, -⟩
        · omega
        · refine W.zald (v := .int (pm_hi h a i.toNatClampNeg)) hx hb g2 ?_ (fun q => by cases q) ?_ ?_ rfl rfl hd (K H locs rls D)
          · have := (hK.2 _ _ (pm_tys_at cA g0 (by omega))).1 (pm_hl h a) (fun j => .int (pm_hi h a j))
            rw [hka] at this ⊢
            exact this
          · rw [arrV_size]; exact pm_in_vp hi1 hi2
          · exact arrV_read _ _ hi2
        · omega
      · obtain ⟨hsc, hmm⟩ := hrd
        subst hsc
        obtain ⟨s1, ⟨scr, x1, x2, x3, x4, x5⟩, s3⟩ := hSc hmm
        omega
    · cases h1
  · cases h1
theorem pm_s_caload (E : pm_En m p R s mi args meth c dC dI cA) (hSc : pm_Sc N0 b m s h) (hd : decode (pm_b m) pc = .ok (.caload, 1)) (h1 : pm_ald 10 m (pc + 1) ls st h = some (.inr (.inl (m', pc', ls', st', h')))) (K : (pm_Kt p l e R s mi args below meth c Q N0 b dC dI cA m cells slots pc' ls' st' h')) : (pm_Kt p l e R s mi args below meth c Q N0 b dC dI cA m cells slots pc ls st h) := by
  obtain ⟨hx, hb, hml, hown, hnm, hts, hK, hnf, hnl⟩ := E
  unfold pm_ald at h1
  split at h1
  · split at h1
    · rename_i i a st hcond
      obtain ⟨hrd, hka, hi1, hi2⟩ := hcond
      simp only [pm_rdb, Bool.or_eq_true, Bool.and_eq_true, decide_eq_true_eq] at hrd
      simp only [pm_go, Option.some.injEq, Sum.inr.injEq, Sum.inl.injEq, Prod.mk.injEq] at h1; obtain ⟨rfl, rfl, rfl, rfl, rfl⟩ := h1
      intro H locs rls D
      show W p l e R s mi args below meth c H locs cells slots Q (F0 mi pc rls (.int i :: .ref (pm_rho N0 b a) :: st.map (pm_tv N0 b)))
      rcases hrd with ha | hrd
      · rw [pm_rho_lt ha D.1.2.1]
        rcases D.1.2.2 a ha with ⟨g1, -⟩ | ⟨g0, g1, g2⟩ | ⟨g1, -⟩
        · omega
        · refine W.cald (v := .int (pm_hi h a i.toNatClampNeg)) hx hb g2 ?_ (fun q => by cases q) ?_ ?_ rfl rfl hd (K H locs rls D)
          · have := (hK.2 _ _ (pm_tys_at cA g0 (by omega))).1 (pm_hl h a) (fun j => .int (pm_hi h a j))
            rw [hka] at this ⊢
            exact this
          · rw [arrV_size]; exact pm_in_vp hi1 hi2
          · exact arrV_read _ _ hi2
        · omega
      · obtain ⟨hsc, hmm⟩ := hrd
        subst hsc
        obtain ⟨s1, ⟨scr, x1, x2, x3, x4, x5⟩, s3⟩ := hSc hmm
        omega
    · cases h1
  · cases h1
theorem pm_s_iastore (E : pm_En m p R s mi args meth c dC dI cA) (hd : decode (pm_b m) pc = .ok (.iastore, 1)) (h1 : pm_ast 11 m (pc + 1) ls st h = some (.inr (.inl (m', pc', ls', st', h')))) (K : (pm_Kt p l e R s mi args below meth c Q N0 b dC dI cA m cells slots pc' ls' st' h')) : (pm_Kt p l e R s mi args below meth c Q N0 b dC dI cA m cells slots pc ls st h) := by
  obtain ⟨hx, hb, hml, hown, hnm, hts, hK, hnf, hnl⟩ := E
  unfold pm_ast at h1
  split at h1
  · split at h1
    · rename_i v i a st hcond
      obtain ⟨ha, hka, hi1, hi2⟩ := hcond
      simp only [pm_go, Option.some.injEq, Sum.inr.injEq, Sum.inl.injEq, Prod.mk.injEq] at h1; obtain ⟨rfl, rfl, rfl, rfl, rfl⟩ := h1
      intro H locs rls D
      show W p l e R s mi args below meth c H locs cells slots Q (F0 mi pc rls (.int v :: .int i :: .ref (pm_rho N0 b a) :: st.map (pm_tv N0 b)))
      obtain ⟨D1, D2, D3, D4⟩ := D
      rw [pm_rho_lt ha D1.2.1]
      rcases D1.2.2 a ha with ⟨g1, -⟩ | ⟨g0, g1, g2⟩ | ⟨g1, -⟩
      · omega
      · refine W.iast hx hb g2 ?_ (fun q => by cases q) ?_ rfl rfl hd fun H' e1 e2 e3 => ?_
        · have := (hK.2 _ _ (pm_tys_at cA g0 (by omega))).1 (pm_hl h a) (fun j => .int (pm_hi h a j))
          rw [hka] at this ⊢
          exact this
        · rw [arrV_size]; exact pm_in_vp hi1 hi2
        · refine K H' _ rls ⟨D1.set e2 e3 rfl (fun q hq => ⟨rfl, by simp [pm_setI, hq], rfl⟩) (Or.inr (Or.inl ⟨g0, g1, ?_⟩)), fun q hq => (e3 q (Nat.ne_of_lt (Nat.lt_of_lt_of_le hq (Nat.le_add_right _ _)))).trans (D2 q hq), pm_locs D3, D4⟩
          rw [e1, arrV_store]
          show some (arrV (cA (pm_hk h a)) (pm_hl h a) _) = some (arrV (cA (pm_hk h a)) (pm_hl h a) _)
          congr 2
          funext j
          unfold updV
          by_cases hj : j = i.toNatClampNeg
          · subst hj
            simp [pm_hi, pm_setI, upd]
            rfl
          · simp [pm_hi, pm_setI, upd, hj]
      · omega
    · cases h1
  · cases h1
theorem pm_s_bastore (E : pm_En m p R s mi args meth c dC dI cA) (hd : decode (pm_b m) pc = .ok (.bastore, 1)) (h1 : pm_ast 12 m (pc + 1) ls st h = some (.inr (.inl (m', pc', ls', st', h')))) (K : (pm_Kt p l e R s mi args below meth c Q N0 b dC dI cA m cells slots pc' ls' st' h')) : (pm_Kt p l e R s mi args below meth c Q N0 b dC dI cA m cells slots pc ls st h) := by
  obtain ⟨hx, hb, hml, hown, hnm, hts, hK, hnf, hnl⟩ := E
  unfold pm_ast at h1
  split at h1
  · split at h1
    · rename_i v i a st hcond
      obtain ⟨ha, hka, hi1, hi2⟩ := hcond
      simp only [pm_go, Option.some.injEq, Sum.inr.injEq, Sum.inl.injEq, Prod.mk.injEq] at h1; obtain ⟨rfl, rfl, rfl, rfl, rfl⟩ := h1
      intro H locs rls D
      show W p l e R s mi args below meth c H locs cells slots Q (F0 mi pc rls (.int v :: .int i :: .ref (pm_rho N0 b a) :: st.map (pm_tv N0 b)))
      obtain ⟨D1, D2, D3, D4⟩ := D
      rw [pm_rho_lt ha D1.2.1]
      rcases D1.2.2 a ha with ⟨g1, -⟩ | ⟨g0, g1, g2⟩ | ⟨g1, -⟩
      · omega
      · refine W.zast hx hb g2 ?_ (fun q => by cases q) ?_ rfl rfl hd fun H' e1 e2 e3 => ?_
        · have := (hK.2 _ _ (pm_tys_at cA g0 (by omega))).1 (pm_hl h a) (fun j => .int (pm_hi h a j))
          rw [hka] at this ⊢
          exact this
        · rw [arrV_size]; exact pm_in_vp hi1 hi2
        · refine K H' _ rls ⟨D1.set e2 e3 rfl (fun q hq => ⟨rfl, by simp [pm_setI, hq], rfl⟩) (Or.inr (Or.inl ⟨g0, g1, ?_⟩)), fun q hq => (e3 q (Nat.ne_of_lt (Nat.lt_of_lt_of_le hq (Nat.le_add_right _ _)))).trans (D2 q hq), pm_locs D3, D4⟩
          rw [e1, arrV_store]
          show some (arrV (cA (pm_hk h a)) (pm_hl h a) _) = some (arrV (cA (pm_hk h a)) (pm_hl h a) _)
          congr 2
          funext j
          unfold updV
          by_cases hj : j = i.toNatClampNeg
          · subst hj
            simp [pm_hi, pm_setI, upd]
            rfl
          · simp [pm_hi, pm_setI, upd, hj]
      · omega
    · cases h1
  · cases h1
theorem pm_s_castore (E : pm_En m p R s mi args meth c dC dI cA) (hd : decode (pm_b m) pc = .ok (.castore, 1)) (h1 : pm_ast 10 m (pc + 1) ls st h = some (.inr (.inl (m', pc', ls', st', h')))) (K : (pm_Kt p l e R s mi args below meth c Q N0 b dC dI cA m cells slots pc' ls' st' h')) : (pm_Kt p l e R s mi args below meth c Q N0 b dC dI cA m cells slots pc ls st h) := by
  obtain ⟨hx, hb, hml, hown, hnm, hts, hK, hnf, hnl⟩ := E
  unfold pm_ast at h1
  split at h1
  · split at h1
    · rename_i v i a st hcond
      obtain ⟨ha, hka, hi1, hi2⟩ := hcond
      simp only [pm_go, Option.some.injEq, Sum.inr.injEq, Sum.inl.injEq, Prod.mk.injEq] at h1; obtain ⟨rfl, rfl, rfl, rfl, rfl⟩ := h1
      intro H locs rls D
      show W p l e R s mi args below meth c H locs cells slots Q (F0 mi pc rls (.int v :: .int i :: .ref (pm_rho N0 b a) :: st.map (pm_tv N0 b)))
      obtain ⟨D1, D2, D3, D4⟩ := D
      rw [pm_rho_lt ha D1.2.1]
      rcases D1.2.2 a ha with ⟨g1, -⟩ | ⟨g0, g1, g2⟩ | ⟨g1, -⟩
      · omega
      · refine W.cast hx hb g2 ?_ (fun q => by cases q) ?_ rfl rfl hd fun H' e1 e2 e3 => ?_
        · have := (hK.2 _ _ (pm_tys_at cA g0 (by omega))).1 (pm_hl h a) (fun j => .int (pm_hi h a j))
          rw [hka] at this ⊢
          exact this
        · rw [arrV_size]; exact pm_in_vp hi1 hi2
        · refine K H' _ rls ⟨D1.set e2 e3 rfl (fun q hq => ⟨rfl, by simp [pm_setI, hq], rfl⟩) (Or.inr (Or.inl ⟨g0, g1, ?_⟩)), fun q hq => (e3 q (Nat.ne_of_lt (Nat.lt_of_lt_of_le hq (Nat.le_add_right _ _)))).trans (D2 q hq), pm_locs D3, D4⟩
          rw [e1, arrV_store]
          show some (arrV (cA (pm_hk h a)) (pm_hl h a) _) = some (arrV (cA (pm_hk h a)) (pm_hl h a) _)
          congr 2
          funext j
          unfold updV
          by_cases hj : j = i.toNatClampNeg
          · subst hj
            simp [pm_hi, pm_setI, upd]
            rfl
          · simp [pm_hi, pm_setI, upd, hj]
      · omega
    · cases h1
  · cases h1
theorem pm_s_aaload (E : pm_En m p R s mi args meth c dC dI cA) (hd : decode (pm_b m) pc = .ok (.aaload, 1)) (h1 : pm_aald m (pc + 1) ls st h = some (.inr (.inl (m', pc', ls', st', h')))) (K : (pm_Kt p l e R s mi args below meth c Q N0 b dC dI cA m cells slots pc' ls' st' h')) : (pm_Kt p l e R s mi args below meth c Q N0 b dC dI cA m cells slots pc ls st h) := by
  obtain ⟨hx, hb, hml, hown, hnm, hts, hK, hnf, hnl⟩ := E
  unfold pm_aald at h1
  split at h1
  · split at h1
    · rename_i i a st hcond
      obtain ⟨ha, ⟨hk1, hk2⟩, hi1, hi2⟩ := hcond
      simp only [pm_go, Option.some.injEq, Sum.inr.injEq, Sum.inl.injEq, Prod.mk.injEq] at h1; obtain ⟨rfl, rfl, rfl, rfl, rfl⟩ := h1
      intro H locs rls D
      show W p l e R s mi args below meth c H locs cells slots Q (F0 mi pc rls (.int i :: .ref (pm_rho N0 b a) :: st.map (pm_tv N0 b)))
      rw [pm_rho_lt ha D.1.2.1]
      rcases D.1.2.2 a ha with ⟨g1, -⟩ | ⟨g0, g1, -⟩ | ⟨g0, g1, g2⟩
      · omega
      · omega
      · have e0 : pm_ety (pm_hk h a) = .object (pm_eC (pm_hk h a)) := by
          have := (pm_f7 (pm_hk h a - 13) (by omega)).2.2.2
          rwa [show 13 + (pm_hk h a - 13) = pm_hk h a by omega] at this
        have hr := (hK.2 _ _ (pm_tys_at cA (by omega) hk2)).1 (pm_hl h a) (fun j => pm_rv N0 b (pm_hr h a j))
        rw [show ((cA (pm_hk h a), pm_ety (pm_hk h a)) : ClassId × FieldType).2 = .object (pm_eC (pm_hk h a)) from e0] at hr
        refine W.aald (v := pm_rv N0 b (pm_hr h a i.toNatClampNeg)) (ty := .object (pm_eC (pm_hk h a))) hx hb g2 hr rfl (fun q => by cases q) ?_ ?_ rfl rfl hd ?_
        · rw [arrV_size]; exact pm_in_vp hi1 hi2
        · exact arrV_read _ _ hi2
        · rw [← pm_rv_eq]
          exact K H locs rls D
    · cases h1
  · cases h1
theorem pm_s_aastore (E : pm_En m p R s mi args meth c dC dI cA) (hd : decode (pm_b m) pc = .ok (.aastore, 1)) (h1 : pm_aast m (pc + 1) ls st h = some (.inr (.inl (m', pc', ls', st', h')))) (K : (pm_Kt p l e R s mi args below meth c Q N0 b dC dI cA m cells slots pc' ls' st' h')) : (pm_Kt p l e R s mi args below meth c Q N0 b dC dI cA m cells slots pc ls st h) := by
  obtain ⟨hx, hb, hml, hown, hnm, hts, hK, hnf, hnl⟩ := E
  unfold pm_aast at h1
  split at h1
  · split at h1
    · rename_i v i a st hcond
      obtain ⟨ha, ⟨hk1, hk2⟩, ⟨hi1, hi2⟩, hv, hkv⟩ := hcond
      simp only [pm_go, Option.some.injEq, Sum.inr.injEq, Sum.inl.injEq, Prod.mk.injEq] at h1; obtain ⟨rfl, rfl, rfl, rfl, rfl⟩ := h1
      intro H locs rls D
      obtain ⟨D1, D2, D3, D4⟩ := D
      show W p l e R s mi args below meth c H locs cells slots Q (F0 mi pc rls (.ref (pm_rho N0 b v) :: .int i :: .ref (pm_rho N0 b a) :: st.map (pm_tv N0 b)))
      rw [pm_rho_lt ha D1.2.1, pm_rho_lt hv D1.2.1]
      have h7 := pm_f7 (pm_hk h a - 13) (by omega)
      rw [show 13 + (pm_hk h a - 13) = pm_hk h a by omega] at h7
      obtain ⟨-, j2, j3, j4⟩ := h7
      rcases D1.2.2 a ha with ⟨g1, -⟩ | ⟨g0, g1, -⟩ | ⟨g0, g1, g2⟩
      · omega
      · omega
      · rcases D1.2.2 v hv with ⟨g3, cellV, c1, c2, c3, -⟩ | ⟨g3, -⟩ | ⟨g3, -⟩
        · have hcls := (hK.1 _ _ (pm_vw_at j3)).2
          have hRA := (hK.2 _ _ (pm_tys_at cA (by omega) hk2)).2
          rw [show ((cA (pm_hk h a), pm_ety (pm_hk h a)) : ClassId × FieldType).2 = .object (pm_eC (pm_hk h a)) from j4] at hRA
          obtain ⟨kA, comp, k1, k2, k3, -⟩ := hRA
          have hcomp : comp = dC (pm_eK (pm_hk h a)) := Option.some.inj (k3.symm.trans (by rw [← j2]; exact hcls.1))
          subst hcomp
          obtain ⟨kC, hkC, -⟩ := hcls.2
          rw [hkv] at c2
          refine W.aast hx hb g2 (fun q h => by cases h) (fun h => by cases h) k1 k2 rfl hkC ⟨Int32.not_lt.mpr hi1, by rw [arrV_size]; exact hi2⟩ c1 (fun q h => by rw [c3] at h; cases h) (by rw [c2]; exact hkC) (by rw [c2]; exact va_assign hcls) rfl rfl hd fun H' e1 e2 e3 => ?_
          refine K H' _ rls ⟨D1.set e2 e3 rfl (fun q hq => ⟨rfl, rfl, by simp [pm_setR, hq]⟩) (Or.inr (Or.inr ⟨g0, g1, ?_⟩)), fun q hq => (e3 q (Nat.ne_of_lt (Nat.lt_of_lt_of_le hq (Nat.le_add_right _ _)))).trans (D2 q hq), pm_locs D3, D4⟩
          rw [e1, arrV_store]
          show some (arrV (cA (pm_hk h a)) (pm_hl h a) _) = some (arrV (cA (pm_hk h a)) (pm_hl h a) _)
          congr 2
          funext j
          unfold updV
          by_cases hj : j = i.toNatClampNeg
          · subst hj
            simp [pm_hr, pm_setR, va_up, pm_rv, va_rf, pm_rho_lt hv D1.2.1]
          · simp [pm_hr, pm_setR, va_up, hj]
        · omega
        · omega
    · cases h1
  · cases h1
theorem pm_s_alen (E : pm_En m p R s mi args meth c dC dI cA) (hSc : pm_Sc N0 b m s h) (hd : decode (pm_b m) pc = .ok (.arraylength, 1)) (h1 : pm_alen m (pc + 1) ls st h = some (.inr (.inl (m', pc', ls', st', h')))) (K : (pm_Kt p l e R s mi args below meth c Q N0 b dC dI cA m cells slots pc' ls' st' h')) : (pm_Kt p l e R s mi args below meth c Q N0 b dC dI cA m cells slots pc ls st h) := by
  obtain ⟨hx, hb, hml, hown, hnm, hts, hK, hnf, hnl⟩ := E
  unfold pm_alen at h1
  split at h1
  · split at h1
    · rename_i a st hcond
      obtain ⟨hrd, hk1, hk2⟩ := hcond
      simp only [pm_rdb, Bool.or_eq_true, Bool.and_eq_true, decide_eq_true_eq] at hrd
      simp only [pm_go, Option.some.injEq, Sum.inr.injEq, Sum.inl.injEq, Prod.mk.injEq] at h1; obtain ⟨rfl, rfl, rfl, rfl, rfl⟩ := h1
      intro H locs rls D
      show W p l e R s mi args below meth c H locs cells slots Q (F0 mi pc rls (.ref (pm_rho N0 b a) :: st.map (pm_tv N0 b)))
      rcases hrd with ha | ⟨hsc, hmm⟩
      · rw [pm_rho_lt ha D.1.2.1]
        have hr := fun z => (hK.2 _ _ (pm_tys_at cA hk1 hk2)).1 (pm_hl h a) z
        rcases D.1.2.2 a ha with ⟨g1, -⟩ | ⟨g0, g1, g2⟩ | ⟨g0, g1, g2⟩
        · omega
        · exact W.alen (n := Int32.ofNat (pm_hl h a)) hx hb g2 (hr _) (by rw [arrV_size]) rfl rfl hd (K H locs rls D)
        · exact W.alen (n := Int32.ofNat (pm_hl h a)) hx hb g2 (hr _) (by rw [arrV_size]) rfl rfl hd (K H locs rls D)
      · subst hsc
        obtain ⟨s1, ⟨scr, x1, x2, x3, x4, x5⟩, s3⟩ := hSc hmm
        refine W.alen (n := Int32.ofNat (pm_hl h pm_scr)) hx hb (a := b) (cell := scr) (by rw [D.2.1 b s3]; exact x1) x2 (by rw [x4]) rfl (by show _ = _; unfold pm_rho; rw [if_pos rfl]) hd ?_
        exact K H locs rls D
    · cases h1
  · cases h1
end PM
