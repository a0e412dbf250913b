/-! calls; the whole run of the pure machine is a run of the real one -/
theorem pm_nolaw : (pm_ks.all fun L => L.all fun q => match q.2.1 with
    | .invokevirtual _ => decide (q.2.2.2.1 ≠ 171)
    | .invokestatic _ => decide (q.2.2.2.1 ≠ 171)
    | .invokespecial _ => decide (q.2.2.2.1 ≠ 171)
    | _ => true) = true := by decide +kernel
theorem pm_nolaw_of {m pc : Nat} {i : pm_I} (h : pm_code m pc = some i) (hi : (∃ k, i.1 = .invokevirtual k) ∨ (∃ k, i.1 = .invokestatic k) ∨ (∃ k, i.1 = .invokespecial k)) : i.2.2.1 ≠ 171 := by
  have hm := pm_code_mem h
  by_cases hl : m < pm_ks.length
  · rw [List.getD_eq_getElem?_getD, List.getElem?_eq_getElem hl] at hm
    have h1 := List.all_eq_true.mp pm_nolaw _ (List.getElem_mem hl)
    have h2 := List.all_eq_true.mp h1 _ hm
    obtain ⟨ins, len, x, y, z, w⟩ := i
    rcases hi with ⟨k, hk⟩ | ⟨k, hk⟩ | ⟨k, hk⟩
    · dsimp only at hk h2 ⊢
      subst hk
      simpa using h2
    · dsimp only at hk h2 ⊢
      subst hk
      simpa using h2
    · dsimp only at hk h2 ⊢
      subst hk
      simpa using h2
  · rw [List.getD_eq_getElem?_getD, List.getElem?_eq_none (by omega)] at hm
    simp at hm
/-- goes on in its frame, or stops -/
def pm_gon (o : pm_O) : Prop := ∀ r, o = some r → ∃ s', r = .inr (.inl s')
theorem pm_gon_n : pm_gon none := fun _ h => by cases h
theorem pm_gon_g (m pc : Nat) (ls st : List Value) (h : pm_H) : pm_gon (pm_go m pc ls st h) := fun r hr => by
  unfold pm_go at hr
  cases hr
  exact ⟨_, rfl⟩
theorem pm_n_aload (k : Nat) (m pc : Nat) (ls st : List Value) (h : pm_H) : pm_gon (pm_aload k m pc ls st h) := by
  unfold pm_aload
  all_goals try split
  all_goals first
    | exact pm_gon_n
    | exact pm_gon_g _ _ _ _ _
theorem pm_n_iload (k : Nat) (m pc : Nat) (ls st : List Value) (h : pm_H) : pm_gon (pm_iload k m pc ls st h) := by
  unfold pm_iload
  all_goals try split
  all_goals first
    | exact pm_gon_n
    | exact pm_gon_g _ _ _ _ _
theorem pm_n_astore (k : Nat) (m pc : Nat) (ls st : List Value) (h : pm_H) : pm_gon (pm_astore k m pc ls st h) := by
  unfold pm_astore
  all_goals try split
  all_goals try split
  all_goals first
    | exact pm_gon_n
    | exact pm_gon_g _ _ _ _ _
theorem pm_n_istore (k : Nat) (m pc : Nat) (ls st : List Value) (h : pm_H) : pm_gon (pm_istore k m pc ls st h) := by
  unfold pm_istore
  all_goals try split
  all_goals try split
  all_goals first
    | exact pm_gon_n
    | exact pm_gon_g _ _ _ _ _
theorem pm_n_iinc (k : Nat) (n : Int) (m pc : Nat) (ls st : List Value) (h : pm_H) : pm_gon (pm_iinc k n m pc ls st h) := by
  unfold pm_iinc
  all_goals try split
  all_goals try split
  all_goals first
    | exact pm_gon_n
    | exact pm_gon_g _ _ _ _ _
theorem pm_n_op2 (f : Int32 → Int32 → Int32) (m pc : Nat) (ls st : List Value) (h : pm_H) : pm_gon (pm_op2 f m pc ls st h) := by
  unfold pm_op2
  all_goals try split
  all_goals first
    | exact pm_gon_n
    | exact pm_gon_g _ _ _ _ _
theorem pm_n_irem (m pc : Nat) (ls st : List Value) (h : pm_H) : pm_gon (pm_irem m pc ls st h) := by
  unfold pm_irem
  all_goals try split
  all_goals try split
  all_goals first
    | exact pm_gon_n
    | exact pm_gon_g _ _ _ _ _
theorem pm_n_i2c (m pc : Nat) (ls st : List Value) (h : pm_H) : pm_gon (pm_i2c m pc ls st h) := by
  unfold pm_i2c
  all_goals try split
  all_goals first
    | exact pm_gon_n
    | exact pm_gon_g _ _ _ _ _
theorem pm_n_dup (m pc : Nat) (ls st : List Value) (h : pm_H) : pm_gon (pm_dup m pc ls st h) := by
  unfold pm_dup
  all_goals try split
  all_goals first
    | exact pm_gon_n
    | exact pm_gon_g _ _ _ _ _
theorem pm_n_dup2 (m pc : Nat) (ls st : List Value) (h : pm_H) : pm_gon (pm_dup2 m pc ls st h) := by
  unfold pm_dup2
  all_goals try split
  all_goals first
    | exact pm_gon_n
    | exact pm_gon_g _ _ _ _ _
theorem pm_n_tsw (dflt lo hi : Int) (offs : Array Int) (m pc : Nat) (ls st : List Value) (h : pm_H) : pm_gon (pm_tsw dflt lo hi offs m pc ls st h) := by
  unfold pm_tsw
  all_goals try split
  all_goals try split
  all_goals try split
  all_goals first
    | exact pm_gon_n
    | exact pm_gon_g _ _ _ _ _
theorem pm_n_getf (x y z : Nat) (m pc : Nat) (ls st : List Value) (h : pm_H) : pm_gon (pm_getf x y z m pc ls st h) := by
  unfold pm_getf
  all_goals try split
  all_goals try split
  all_goals try split
  all_goals first
    | exact pm_gon_n
    | exact pm_gon_g _ _ _ _ _
theorem pm_n_putf (x y z : Nat) (m pc : Nat) (ls st : List Value) (h : pm_H) : pm_gon (pm_putf x y z m pc ls st h) := by
  unfold pm_putf
  all_goals try split
  all_goals try split
  all_goals first
    | exact pm_gon_n
    | exact pm_gon_g _ _ _ _ _
theorem pm_n_ald (k : Nat) (m pc : Nat) (ls st : List Value) (h : pm_H) : pm_gon (pm_ald k m pc ls st h) := by
  unfold pm_ald
  all_goals try split
  all_goals try split
  all_goals first
    | exact pm_gon_n
    | exact pm_gon_g _ _ _ _ _
theorem pm_n_ast (k : Nat) (m pc : Nat) (ls st : List Value) (h : pm_H) : pm_gon (pm_ast k m pc ls st h) := by
  unfold pm_ast
  all_goals try split
  all_goals try split
  all_goals first
    | exact pm_gon_n
    | exact pm_gon_g _ _ _ _ _
theorem pm_n_aald (m pc : Nat) (ls st : List Value) (h : pm_H) : pm_gon (pm_aald m pc ls st h) := by
  unfold pm_aald
  all_goals try split
  all_goals try split
  all_goals first
    | exact pm_gon_n
    | exact pm_gon_g _ _ _ _ _
theorem pm_n_aast (m pc : Nat) (ls st : List Value) (h : pm_H) : pm_gon (pm_aast m pc ls st h) := by
  unfold pm_aast
  all_goals try split
  all_goals try split
  all_goals first
    | exact pm_gon_n
    | exact pm_gon_g _ _ _ _ _
theorem pm_n_alen (m pc : Nat) (ls st : List Value) (h : pm_H) : pm_gon (pm_alen m pc ls st h) := by
  unfold pm_alen
  all_goals try split
  all_goals try split
  all_goals first
    | exact pm_gon_n
    | exact pm_gon_g _ _ _ _ _
theorem pm_n_newa (k : Nat) (m pc : Nat) (ls st : List Value) (h : pm_H) : pm_gon (pm_newa k m pc ls st h) := by
  unfold pm_newa
  all_goals try split
  all_goals try split
  all_goals first
    | exact pm_gon_n
    | exact pm_gon_g _ _ _ _ _
theorem pm_n_newo (k : Nat) (m pc : Nat) (ls st : List Value) (h : pm_H) : pm_gon (pm_newo k m pc ls st h) := by
  unfold pm_newo
  all_goals try split
  all_goals first
    | exact pm_gon_n
    | exact pm_gon_g _ _ _ _ _
theorem pm_n_oinit (m pc : Nat) (ls st : List Value) (h : pm_H) : pm_gon (pm_oinit m pc ls st h) := by
  unfold pm_oinit
  all_goals try split
  all_goals try split
  all_goals first
    | exact pm_gon_n
    | exact pm_gon_g _ _ _ _ _
theorem pm_n_acopy (m pc : Nat) (ls st : List Value) (h : pm_H) : pm_gon (pm_acopy m pc ls st h) := by
  unfold pm_acopy
  all_goals try split
  all_goals try split
  all_goals first
    | exact pm_gon_n
    | exact pm_gon_g _ _ _ _ _
theorem pm_n_mm (z : Nat) (m pc : Nat) (ls st : List Value) (h : pm_H) : pm_gon (pm_mm z m pc ls st h) := by
  unfold pm_mm
  all_goals try split
  all_goals try split
  all_goals first
    | exact pm_gon_n
    | exact pm_gon_g _ _ _ _ _
theorem pm_n_cmp (cnd : ClassFile.Cond) (x y : Int32) (m tg pc : Nat) (ls st : List Value) (h : pm_H) : pm_gon (pm_cmp cnd x y m tg pc ls st h) := by
  unfold pm_cmp
  split
  all_goals split
  all_goals exact pm_gon_g _ _ _ _ _
theorem pm_n_icmp (cnd : ClassFile.Cond) (m tg pc : Nat) (ls st : List Value) (h : pm_H) : pm_gon (pm_icmp cnd m tg pc ls st h) := by
  unfold pm_icmp
  split
  · exact pm_n_cmp _ _ _ _ _ _ _ _ _
  · exact pm_gon_n
theorem pm_n_ifc (cnd : ClassFile.Cond) (m tg pc : Nat) (ls st : List Value) (h : pm_H) : pm_gon (pm_ifc cnd m tg pc ls st h) := by
  unfold pm_ifc
  split
  · exact pm_n_cmp _ _ _ _ _ _ _ _ _
  · exact pm_gon_n
theorem pm_gon_ret {o : pm_O} (h : pm_gon o) {r : pm_R} (h1 : o = some (.inl r)) : False := by
  obtain ⟨s', hs⟩ := h _ h1
  cases hs
theorem pm_gon_call {o : pm_O} (h : pm_gon o) {r : pm_S × pm_F} (h1 : o = some (.inr (.inr r))) : False := by
  obtain ⟨s', hs⟩ := h _ h1
  cases hs
theorem pm_call_ret {x y z m pc : Nat} {ls st : List Value} {h : pm_H} {r : pm_R} (h1 : pm_call x y z m pc ls st h = some (.inl r)) : False := by
  unfold pm_call at h1
  split at h1
  · simp at h1
  · cases h1
theorem pm_ins_ret {i : pm_I} {m pc : Nat} {ls st : List Value} {h hr : pm_H} {r : Option Value} (h1 : pm_ins i m pc ls st h = some (.inl (r, hr))) : hr = h ∧ ((i.1 = .return_ ∧ r = none ∧ st = []) ∨ (i.1 = .ireturn ∧ ∃ v, r = some (.int v) ∧ st = [.int v] ∧ (i.2.2.1 = 0 ∨ v = 0 ∨ v = 1))) := by
  unfold pm_ins at h1
  split at h1
  · exact (pm_gon_ret (pm_n_aload _ _ _ _ _ _) h1).elim
  · exact (pm_gon_ret (pm_n_aload _ _ _ _ _ _) h1).elim
  · exact (pm_gon_ret (pm_n_iload _ _ _ _ _ _) h1).elim
  · exact (pm_gon_ret (pm_n_iload _ _ _ _ _ _) h1).elim
  · exact (pm_gon_ret (pm_n_astore _ _ _ _ _ _) h1).elim
  · exact (pm_gon_ret (pm_n_astore _ _ _ _ _ _) h1).elim
  · exact (pm_gon_ret (pm_n_istore _ _ _ _ _ _) h1).elim
  · exact (pm_gon_ret (pm_n_istore _ _ _ _ _ _) h1).elim
  · exact (pm_gon_ret (pm_n_iinc _ _ _ _ _ _ _) h1).elim
  · exact (pm_gon_ret (pm_gon_g _ _ _ _ _) h1).elim
  · exact (pm_gon_ret (pm_gon_g _ _ _ _ _) h1).elim
  · exact (pm_gon_ret (pm_gon_g _ _ _ _ _) h1).elim
  · exact (pm_gon_ret (pm_gon_g _ _ _ _ _) h1).elim
  · exact (pm_gon_ret (pm_n_op2 _ _ _ _ _ _) h1).elim
  · exact (pm_gon_ret (pm_n_op2 _ _ _ _ _ _) h1).elim
  · exact (pm_gon_ret (pm_n_op2 _ _ _ _ _ _) h1).elim
  · exact (pm_gon_ret (pm_n_op2 _ _ _ _ _ _) h1).elim
  · exact (pm_gon_ret (pm_n_irem _ _ _ _ _) h1).elim
  · exact (pm_gon_ret (pm_n_i2c _ _ _ _ _) h1).elim
  · exact (pm_gon_ret (pm_n_dup _ _ _ _ _) h1).elim
  · exact (pm_gon_ret (pm_n_dup2 _ _ _ _ _) h1).elim
  · exact (pm_gon_ret (pm_gon_g _ _ _ _ _) h1).elim
  · exact (pm_gon_ret (pm_n_icmp _ _ _ _ _ _ _) h1).elim
  · exact (pm_gon_ret (pm_n_ifc _ _ _ _ _ _ _) h1).elim
  · exact (pm_gon_ret (pm_n_tsw _ _ _ _ _ _ _ _ _) h1).elim
  · exact (pm_gon_ret (pm_n_getf _ _ _ _ _ _ _ _) h1).elim
  · exact (pm_gon_ret (pm_n_putf _ _ _ _ _ _ _ _) h1).elim
  · exact (pm_gon_ret (pm_n_ald _ _ _ _ _ _) h1).elim
  · exact (pm_gon_ret (pm_n_ald _ _ _ _ _ _) h1).elim
  · exact (pm_gon_ret (pm_n_ald _ _ _ _ _ _) h1).elim
  · exact (pm_gon_ret (pm_n_ast _ _ _ _ _ _) h1).elim
  · exact (pm_gon_ret (pm_n_ast _ _ _ _ _ _) h1).elim
  · exact (pm_gon_ret (pm_n_ast _ _ _ _ _ _) h1).elim
  · exact (pm_gon_ret (pm_n_aald _ _ _ _ _) h1).elim
  · exact (pm_gon_ret (pm_n_aast _ _ _ _ _) h1).elim
  · exact (pm_gon_ret (pm_n_alen _ _ _ _ _) h1).elim
  · exact (pm_gon_ret (pm_n_newa _ _ _ _ _ _) h1).elim
  · exact (pm_gon_ret (pm_n_newa _ _ _ _ _ _) h1).elim
  · exact (pm_gon_ret (pm_n_newo _ _ _ _ _ _) h1).elim
  · exact (pm_call_ret h1).elim
  · split at h1
    · exact (pm_gon_ret (pm_n_acopy _ _ _ _ _) h1).elim
    · split at h1
      · exact (pm_gon_ret (pm_n_mm _ _ _ _ _ _) h1).elim
      · exact (pm_call_ret h1).elim
  · split at h1
    · exact (pm_gon_ret (pm_n_oinit _ _ _ _ _) h1).elim
    · exact (pm_call_ret h1).elim
  · rename_i hi
    unfold pm_iret at h1
    split at h1
    · split at h1
      · rename_i v hv
        simp only [Option.some.injEq, Sum.inl.injEq, Prod.mk.injEq] at h1
        obtain ⟨rfl, rfl⟩ := h1
        exact ⟨rfl, Or.inr ⟨hi, v, rfl, rfl, hv⟩⟩
      · cases h1
    · cases h1
  · rename_i hi
    unfold pm_vret at h1
    split at h1
    · simp only [Option.some.injEq, Sum.inl.injEq, Prod.mk.injEq] at h1
      obtain ⟨rfl, rfl⟩ := h1
      exact ⟨rfl, Or.inl ⟨hi, rfl, rfl⟩⟩
    · cases h1
  · cases h1

theorem pm_ins_call {i : pm_I} {m pc : Nat} {ls st : List Value} {h : pm_H} {q : pm_S × pm_F} (h1 : pm_ins i m pc ls st h = some (.inr (.inr q))) : ∃ z, ((z = 0 ∧ ∃ k, i.1 = .invokevirtual k) ∨ (z = 1 ∧ (∃ k, i.1 = .invokestatic k) ∧ ¬ i.2.2.2.2.1 = 4 ∧ ¬ (i.2.2.2.2.1 = 5 ∨ i.2.2.2.2.1 = 6)) ∨ (z = 2 ∧ (∃ k, i.1 = .invokespecial k) ∧ ¬ i.2.2.2.2.1 = 3)) ∧ pm_call i.2.2.1 i.2.2.2.1 z m (pc + 3) ls st h = some (.inr (.inr q)) := by
  unfold pm_ins at h1
  split at h1
  · exact (pm_gon_call (pm_n_aload _ _ _ _ _ _) h1).elim
  · exact (pm_gon_call (pm_n_aload _ _ _ _ _ _) h1).elim
  · exact (pm_gon_call (pm_n_iload _ _ _ _ _ _) h1).elim
  · exact (pm_gon_call (pm_n_iload _ _ _ _ _ _) h1).elim
  · exact (pm_gon_call (pm_n_astore _ _ _ _ _ _) h1).elim
  · exact (pm_gon_call (pm_n_astore _ _ _ _ _ _) h1).elim
  · exact (pm_gon_call (pm_n_istore _ _ _ _ _ _) h1).elim
  · exact (pm_gon_call (pm_n_istore _ _ _ _ _ _) h1).elim
  · exact (pm_gon_call (pm_n_iinc _ _ _ _ _ _ _) h1).elim
  · exact (pm_gon_call (pm_gon_g _ _ _ _ _) h1).elim
  · exact (pm_gon_call (pm_gon_g _ _ _ _ _) h1).elim
  · exact (pm_gon_call (pm_gon_g _ _ _ _ _) h1).elim
  · exact (pm_gon_call (pm_gon_g _ _ _ _ _) h1).elim
  · exact (pm_gon_call (pm_n_op2 _ _ _ _ _ _) h1).elim
  · exact (pm_gon_call (pm_n_op2 _ _ _ _ _ _) h1).elim
  · exact (pm_gon_call (pm_n_op2 _ _ _ _ _ _) h1).elim
  · exact (pm_gon_call (pm_n_op2 _ _ _ _ _ _) h1).elim
  · exact (pm_gon_call (pm_n_irem _ _ _ _ _) h1).elim
  · exact (pm_gon_call (pm_n_i2c _ _ _ _ _) h1).elim
  · exact (pm_gon_call (pm_n_dup _ _ _ _ _) h1).elim
  · exact (pm_gon_call (pm_n_dup2 _ _ _ _ _) h1).elim
  · exact (pm_gon_call (pm_gon_g _ _ _ _ _) h1).elim
  · exact (pm_gon_call (pm_n_icmp _ _ _ _ _ _ _) h1).elim
  · exact (pm_gon_call (pm_n_ifc _ _ _ _ _ _ _) h1).elim
  · exact (pm_gon_call (pm_n_tsw _ _ _ _ _ _ _ _ _) h1).elim
  · exact (pm_gon_call (pm_n_getf _ _ _ _ _ _ _ _) h1).elim
  · exact (pm_gon_call (pm_n_putf _ _ _ _ _ _ _ _) h1).elim
  · exact (pm_gon_call (pm_n_ald _ _ _ _ _ _) h1).elim
  · exact (pm_gon_call (pm_n_ald _ _ _ _ _ _) h1).elim
  · exact (pm_gon_call (pm_n_ald _ _ _ _ _ _) h1).elim
  · exact (pm_gon_call (pm_n_ast _ _ _ _ _ _) h1).elim
  · exact (pm_gon_call (pm_n_ast _ _ _ _ _ _) h1).elim
  · exact (pm_gon_call (pm_n_ast _ _ _ _ _ _) h1).elim
  · exact (pm_gon_call (pm_n_aald _ _ _ _ _) h1).elim
  · exact (pm_gon_call (pm_n_aast _ _ _ _ _) h1).elim
  · exact (pm_gon_call (pm_n_alen _ _ _ _ _) h1).elim
  · exact (pm_gon_call (pm_n_newa _ _ _ _ _ _) h1).elim
  · exact (pm_gon_call (pm_n_newa _ _ _ _ _ _) h1).elim
  · exact (pm_gon_call (pm_n_newo _ _ _ _ _ _) h1).elim
  · rename_i k hi
    exact ⟨0, Or.inl ⟨rfl, k, hi⟩, h1⟩
  · rename_i k hi
    split at h1
    · exact (pm_gon_call (pm_n_acopy _ _ _ _ _) h1).elim
    · rename_i h4
      split at h1
      · exact (pm_gon_call (pm_n_mm _ _ _ _ _ _) h1).elim
      · rename_i h5
        exact ⟨1, Or.inr (Or.inl ⟨rfl, ⟨k, hi⟩, h4, h5⟩), h1⟩
  · rename_i k hi
    split at h1
    · exact (pm_gon_call (pm_n_oinit _ _ _ _ _) h1).elim
    · rename_i h3
      exact ⟨2, Or.inr (Or.inr ⟨rfl, ⟨k, hi⟩, h3⟩), h1⟩
  · unfold pm_iret at h1
    split at h1
    · split at h1
      · simp at h1
      · cases h1
    · cases h1
  · unfold pm_vret at h1
    split at h1
    · simp at h1
    · cases h1
  · cases h1

/-- what a call is made of -/
theorem pm_call_spec {x y z m pc : Nat} {ls st : List Value} {h : pm_H} {q : pm_S × pm_F} (h1 : pm_call x y z m pc ls st h = some (.inr (.inr q))) : y ≤ st.length ∧ (∀ v ∈ st.take y, v.category = 1) ∧ pm_recv x z (st.take y).reverse h = true ∧ ((st.drop y).map Value.category).sum ≤ 8 ∧ q = ((x, 0, (st.take y).reverse ++ List.replicate (pm_ml x - y) Value.null, [], h), (m, pc, ls, st.drop y)) := by
  unfold pm_call at h1
  split at h1
  · rename_i hc
    obtain ⟨c1, c2, c3, c4⟩ := hc
    simp only [Option.some.injEq, Sum.inr.injEq] at h1
    refine ⟨c1, fun v hv => ?_, c3, c4, h1.symm⟩
    have := List.all_eq_true.mp c2 v hv
    simpa using this
  · cases h1
theorem pm_recv0 {x : Nat} {as : List Value} {h : pm_H} (h1 : pm_recv x 0 as h = true) : ∃ b0 at_, as = .ref b0 :: at_ ∧ b0 < h.1 ∧ pm_hk h b0 = pm_mk x := by
  cases as with
  | nil => cases h1
  | cons v at_ =>
    cases v with
    | ref b0 =>
      have h2 : (decide (b0 < h.1) && decide (pm_hk h b0 = pm_mk x)) = true := h1
      simp only [Bool.and_eq_true, decide_eq_true_eq] at h2
      exact ⟨b0, at_, rfl, h2⟩
    | _ => cases h1
theorem pm_recv2 {x : Nat} {as : List Value} {h : pm_H} (h1 : pm_recv x 2 as h = true) : ∃ b0 at_, as = .ref b0 :: at_ := by
  cases as with
  | nil => cases h1
  | cons v at_ =>
    cases v with
    | ref b0 => exact ⟨b0, at_, rfl⟩
    | _ => cases h1
/-- the pure heap only grows -/
theorem pm_ex_le : ∀ (f : Nat) (s : pm_S) (r : pm_R), pm_ex f s = some r → pm_le s.2.2.2.2 r.2
  | 0, s, r, h => by simp [pm_ex] at h
  | f + 1, s, r, h => by
    obtain ⟨m, pc, ls, st, hh⟩ := s
    unfold pm_ex at h
    cases hst : pm_st (m, pc, ls, st, hh) with
    | none => rw [hst] at h; cases h
    | some q =>
      rw [hst] at h
      unfold pm_st at hst
      dsimp only at hst
      cases hco : pm_code m pc with
      | none => rw [hco] at hst; cases hst
      | some i =>
        rw [hco] at hst
        dsimp only at hst
        rcases q with r0 | s' | ⟨s1, fr⟩
        · obtain ⟨rv, rh⟩ := r0
          cases h
          obtain ⟨rfl, -⟩ := pm_ins_ret hst
          exact pm_le.refl _
        · obtain ⟨m', pc', ls', st', h'⟩ := s'
          exact (pm_step_le hst).2.trans (pm_ex_le f _ _ h)
        · obtain ⟨z, -, hca⟩ := pm_ins_call hst
          obtain ⟨-, -, -, -, hq⟩ := pm_call_spec hca
          cases hq
          dsimp only at h
          cases h2 : pm_ex f (i.2.2.1, 0, (st.take i.2.2.2.1).reverse ++ List.replicate (pm_ml i.2.2.1 - i.2.2.2.1) Value.null, [], hh) with
          | none => rw [h2] at h; cases h
          | some w =>
            obtain ⟨v, h3⟩ := w
            rw [h2] at h
            exact (pm_ex_le f _ _ h2).trans (pm_ex_le f _ _ h)
theorem pm_sl {vs : List Value} (h : ∀ v ∈ vs, v.category = 1) : lg_sl vs = vs.map Slot.val := by
  induction vs with
  | nil => rfl
  | cons a l ih =>
    have ha := h a List.mem_cons_self
    have hl := ih fun v hv => h v (List.mem_cons_of_mem _ hv)
    unfold lg_sl at hl ⊢
    rw [List.flatMap_cons, hl, if_neg (by rw [ha]; decide)]
    rfl
/-- the locals at a method's entry -/
theorem pm_entry {N0 b n : Nat} {as : List Value} (h : ∀ v ∈ as, v.category = 1) (hn : as.length ≤ n) : pm_Lc N0 b n ((lg_sl (as.map (pm_tv N0 b)) ++ List.replicate (n - (lg_sl (as.map (pm_tv N0 b))).length) Slot.unset).toArray) (as ++ List.replicate (n - as.length) Value.null) := by
  have hc : ∀ v ∈ as.map (pm_tv N0 b), v.category = 1 := by
    intro v hv
    obtain ⟨w, hw, rfl⟩ := List.mem_map.mp hv
    rw [pm_tv_cat]
    exact h w hw
  have hsl := pm_sl hc
  have hlen : (lg_sl (as.map (pm_tv N0 b))).length = as.length := by rw [hsl]; simp
  have he := lv_entry (as.map (pm_tv N0 b)) (n := n) (by rw [hlen]; exact hn)
  refine ⟨he.1, he.2.1, by simp; omega, fun i v hi => ?_⟩
  by_cases hia : i < as.length
  · rw [List.getElem?_append_left hia] at hi
    have hm := List.mem_of_getElem? hi
    refine ⟨h v hm, fun _ => ?_⟩
    rw [hsl]
    simp only [List.getElem?_toArray]
    rw [List.getElem?_append_left (by simp; exact hia)]
    simp [hi]
  · rw [List.getElem?_append_right (by omega)] at hi
    have hm := List.mem_of_getElem? hi
    have hv := (List.mem_replicate.mp hm).2
    subst hv
    exact ⟨rfl, fun q => absurd rfl q⟩
section PM
variable {p : Program} {l : Launch} {e : Env} {R : Room} {s : State} {mi : MethodId} {args : Array Value} {below : List Frame} {meth : Method} {c : Code} {cells slots : Nat} {Q : State → Prop} {N0 b : Nat} {dC : Nat → ClassId} {dI : Nat → Nat → Nat} {cA : Nat → ClassId} {m pc m' pc' : Nat} {ls st ls' st' : List Value} {h h' : pm_H}
variable {H : Heap} {locs : List Loc} {rls : Array Slot}

/-- a callee's contract -/
def pm_Pc (N0 b : Nat) (dC : Nat → ClassId) (dI : Nat → Nat → Nat) (cA : Nat → ClassId) (as : List Value) (h : pm_H) : Array Value → State → Prop := va_Pc (as.map (pm_tv N0 b)) (fun U => pm_Wd N0 b dC dI cA h U.heap ∧ va_K (dC, dI) pm_vw (pm_tys cA) U ∧ pm_Tb U)
def pm_Qc (N0 b : Nat) (dC : Nat → ClassId) (dI : Nat → Nat → Nat) (cA : Nat → ClassId) (v : Option Value) (h1 : pm_H) : Array Value → State → Outcome → State → Prop := fun _ st oc t => oc = .returned (v.map (pm_tv N0 b)) ∧ pm_Wd N0 b dC dI cA h1 t.heap ∧ ∀ q, q < N0 → t.heap[q]? = st.heap[q]?
def pm_rm (x : Nat) (h h1 : pm_H) : Room := { frames := pm_nf x, cells := h1.1 - h.1, slots := h1.2.1 - h.2.1, locals := pm_nl x }
def pm_ws (x : Nat) : List Cond := [Cond.code (pm_y x) (pm_b x) (pm_ml x) (pm_ret x)]
def pm_Mt (l : Launch) (N0 b : Nat) (dC : Nat → ClassId) (dI : Nat → Nat → Nat) (cA : Nat → ClassId) (x : Nat) (as : List Value) (h : pm_H) (v : Option Value) (h1 : pm_H) : Prop :=
  Met l (pm_y x) (pm_ws x) (pm_rm x h h1) (pm_Pc N0 b dC dI cA as h) (pm_Qc N0 b dC dI cA v h1) (h1.1 - h.1) (h1.2.1 - h.2.1) (fun q => N0 ≤ q)
theorem pm_blind (as : List Value) (h : pm_H) : FrameBlind (pm_Pc N0 b dC dI cA as h) := by
  intro a U g mk q
  obtain ⟨q0, q1, q2, q3⟩ := q
  refine ⟨q0, q1, va_K.moved (u := U) (U := U.calling g mk a) (Vm.Alike.refl U.vm) q2, ?_⟩
  exact pm_Tb.moved (s := U) (U := U.calling g mk a) (State.WarmedH.refl U) q3
/-- behind a call -/
theorem pm_back {v : Option Value} {rest : List Value} {h1 : pm_H} {mc ms : Nat} {st0 : List Value} {a : Array Value} (hr : va_Run p l e R s mi args below meth c H locs cells slots mc ms (F0 mi pc rls st0) (rest.map (pm_tv N0 b)) (pm_Qc N0 b dC dI cA v h1 a) (fun q => N0 ≤ q)) (D : pm_Dy N0 b dC dI cA m s h H locs rls ls) (hpc : pc' = pc + 3) (K : (pm_Kt p l e R s mi args below meth c Q N0 b dC dI cA m (cells + mc) (slots + ms) pc' ls (v.toList ++ rest) h1)) : W p l e R s mi args below meth c H locs cells slots Q (F0 mi pc rls st0) := by
  intro T hT X
  obtain ⟨v', s0, t, T', L, e0, X', hL, e1, e2, ⟨hoc, hWd, hfr⟩, hgo⟩ := hr T hT X
  obtain ⟨D1, D2, D3, D4⟩ := D
  have hv : v' = v.map (pm_tv N0 b) := by injection hoc
  subst hv
  subst hpc
  obtain ⟨t2, a1, b1⟩ := K T'.heap (locs ++ L) rls ⟨by rw [e1]; exact hWd, fun q hq => by rw [e1, hfr q hq, e0]; exact D2 q hq, fun q hq => by
    rcases List.mem_append.mp hq with h | h
    · exact D3 q h
    · exact hL q h, D4⟩ T' rfl X'
  refine ⟨t2, hgo t2 ?_, b1⟩
  have es : (v.toList ++ rest).map (pm_tv N0 b) = (v.map (pm_tv N0 b)).toList ++ rest.map (pm_tv N0 b) := by
    rw [List.map_append]
    cases v <;> rfl
  rw [es] at a1
  exact a1
theorem pm_s_call {idx x y z w : Nat} {v : Option Value} {h1 : pm_H} {q : pm_S × pm_F} (E : pm_En m p R s mi args meth c dC dI cA) (hT : pm_Tb s)
    (hd : (z = 0 ∧ decode (pm_b m) pc = .ok (.invokevirtual idx, 3)) ∨ (z = 1 ∧ decode (pm_b m) pc = .ok (.invokestatic idx, 3)) ∨ (z = 2 ∧ decode (pm_b m) pc = .ok (.invokespecial idx, 3))) (hc : pm_chkC m idx x y z w = true)
    (hca : pm_call x y z m (pc + 3) ls st h = some (.inr (.inr q))) (hM : pm_Mt l N0 b dC dI cA x (st.take y).reverse h v h1)
    (hcl : cells + (h1.1 - h.1) ≤ R.cells) (hsl : slots + (h1.2.1 - h.2.1) ≤ R.slots) (K : (pm_Kt p l e R s mi args below meth c Q N0 b dC dI cA m (cells + (h1.1 - h.1)) (slots + (h1.2.1 - h.2.1)) (pc + 3) ls (v.toList ++ st.drop y) h1)) : (pm_Kt p l e R s mi args below meth c Q N0 b dC dI cA m cells slots pc ls st h) := by
  obtain ⟨hx, hb, hml, hown, hnm, hts, hK, hnf, hnl⟩ := E
  obtain ⟨c1, c2, c3, c4, -⟩ := pm_call_spec hca
  simp only [pm_chkC, Bool.and_eq_true, decide_eq_true_eq] at hc
  obtain ⟨⟨⟨⟨⟨⟨⟨⟨⟨⟨⟨⟨⟨⟨g1, g2⟩, g3⟩, g4⟩, g5⟩, glk⟩, gin⟩, gse⟩, gsp⟩, gini⟩, gco⟩, gcl⟩, gpl⟩, gnf⟩, gnl⟩ := hc
  have hpay : ∀ w ∈ pm_ws x, ∀ (a' : Array Value) (U : State), s.WarmedH U.vm → w.before a' U = true := by
    intro w hw a' U hW
    rw [List.mem_singleton.mp hw]
    exact hT.moved hW _ (pm_w_in gco rfl) a'
  have hcode : (Cond.code (pm_y x) (pm_b x) (pm_ml x) (pm_ret x)).before args s = true := hts _ (pm_w_in gco rfl)
  have hini : (Cond.initialized (pm_y x).cls).before args s = true := hts _ (pm_w_in gini rfl)
  have hframes : (pm_rm x h h1).frames + 1 ≤ R.frames := Nat.le_trans gnf hnf
  have hlocals : 8 + (pm_ml x + 11) + (pm_rm x h h1).locals ≤ R.locals := Nat.le_trans gnl hnl
  intro H locs rls D
  have hst : st.map (pm_tv N0 b) = ((st.take y).reverse.map (pm_tv N0 b)).reverse ++ (st.drop y).map (pm_tv N0 b) := by
    rw [← List.map_reverse, List.reverse_reverse, ← List.map_append, List.take_append_drop]
  have hcat : 2 * (F0 mi pc rls (st.map (pm_tv N0 b))).monitorRoom + (((st.drop y).map (pm_tv N0 b)).map fun v => v.category).sum ≤ 8 := by
    show 2 * 0 + _ ≤ 8
    rw [pm_cats]
    omega
  have hlen : ((st.take y).reverse).length = y := by rw [List.length_reverse, List.length_take]; omega
  have hpre : ∀ U : State, U.heap = H → s.WarmedH U.vm → pm_Pc N0 b dC dI cA (st.take y).reverse h (((st.take y).reverse.map (pm_tv N0 b)).toArray) U := fun U hU hW => ⟨rfl, by rw [hU]; exact D.1, va_K.moved hW.alike hK, hT.moved hW⟩
  have hblind := pm_blind (N0 := N0) (b := b) (dC := dC) (dI := dI) (cA := cA) (st.take y).reverse h
  have hsz : (F0 mi pc rls (st.map (pm_tv N0 b))).locals.size = pm_ml m := D.2.2.2.1
  generalize hasq : (st.take y).reverse = as at *
  rcases hd with ⟨rfl, hd⟩ | ⟨rfl, hd⟩ | ⟨rfl, hd⟩
  · -- a method of an object
    rw [if_pos rfl] at gse
    simp only [Bool.and_eq_true, decide_eq_true_eq] at gse
    rw [if_neg (by decide)] at gin
    obtain ⟨b0, at_, rfl, c5⟩ := pm_recv0 c3
    · · skip
        have hlk : pm_w w (.methodLink (pm_own m) idx (pm_y x)) = true := by
          split at glk
          · exact glk
          · simp at glk
        refine pm_back (va_runV (C := (pm_y x).cls) (b := N0 + b0) (As := at_.map (pm_tv N0 b)) (n := y - 1) (ret := pm_ret x) (Ts := pm_ts) (rest := (st.drop y).map (pm_tv N0 b)) ⟨hx, hb, hml, hown, hts⟩ hM ⟨⟨rfl, rfl, hframes, hlocals, hpay, List.mem_singleton.mpr rfl, hcode, hini, gcl, ?_, hts _ (pm_w_in hlk rfl)⟩, hts _ (pm_w_in gin rfl), hts _ (pm_w_in gse.1.1 rfl)⟩ ⟨hblind, ?_, ?_⟩ rfl ?_ hsz ?_ hcat hd ⟨hcl, hsl⟩) D rfl K
        · intro sig hsig
          rw [hsig, if_neg (by decide)] at g4
          simp only [Option.map_some, Option.some.injEq] at g4
          omega
        · rcases D.1.2.2 b0 c5.1 with ⟨k1, cell, k2, k3, k4, -⟩ | ⟨k1, -⟩ | ⟨k1, -⟩
          · refine ⟨cell, k2, by rw [k4]; rfl, ?_⟩
            rw [k3, gse.2, c5.2]
            exact (hK.1 _ _ (pm_vw_at gse.1.2)).2.1
          · omega
          · omega
        · intro U hU hW
          have := hpre U hU hW
          rw [List.map_cons] at this
          rw [← pm_rho_lt (b := b) c5.1 D.1.2.1]
          exact this
        · rw [List.length_map]
          have : (Value.ref b0 :: at_).length = y := hlen
          simp at this
          omega
        · show st.map (pm_tv N0 b) = _
          rw [hst, List.map_cons, List.reverse_cons, List.append_assoc]
          show _ ++ (Value.ref (pm_rho N0 b b0) :: _) = _
          rw [pm_rho_lt c5.1 D.1.2.1]
          rfl
  · -- a static method
    rw [if_pos rfl] at gin
    by_cases hw : w < 10000
    · rw [if_pos hw] at glk
      refine pm_back (va_runS (As := as.map (pm_tv N0 b)) (n := y) (ret := pm_ret x) (Ts := pm_ts) (rest := (st.drop y).map (pm_tv N0 b)) ⟨hx, hb, hml, hown, hts⟩ hM ⟨⟨rfl, rfl, hframes, hlocals, hpay, List.mem_singleton.mpr rfl, hcode, hini, gcl, ?_, hts _ (pm_w_in glk rfl)⟩, hts _ (pm_w_in gin rfl)⟩ ⟨hblind, hpre⟩ rfl ?_ hsz hst hcat hd ⟨hcl, hsl⟩) D rfl K
      · intro sig hsig
        rw [hsig] at g4
        simpa using g4.symm
      · rw [List.length_map]; exact hlen
    · rw [if_neg hw] at glk
      rw [Bool.and_eq_true] at glk
      refine pm_back (va_runSN (host := "OpticalTelegraph") (As := as.map (pm_tv N0 b)) (n := y) (ret := pm_ret x) (Ts := pm_ts) (rest := (st.drop y).map (pm_tv N0 b)) ⟨hx, hb, hml, hown, hts⟩ hM ⟨⟨⟨rfl, rfl, hframes, hlocals, hpay, List.mem_singleton.mpr rfl⟩, hcode, hini, gcl, ?_, hts _ (pm_w_in glk.2 rfl)⟩, hts _ (pm_w_in gin rfl), trivial⟩ ⟨hblind, hpre⟩ rfl ?_ hsz hst hcat hd ⟨hcl, hsl⟩) D rfl K
      · intro sig hsig
        rw [hsig] at g4
        simpa using g4.symm
      · rw [List.length_map]; exact hlen
  · -- a constructor
    rw [if_neg (by decide)] at gin
    rw [if_pos rfl] at gsp
    simp only [Bool.and_eq_true, decide_eq_true_eq] at gsp
    obtain ⟨b0, at_, rfl⟩ := pm_recv2 c3
    · skip
      have hlen' : at_.length = y - 1 := by
        have : (Value.ref b0 :: at_).length = y := hlen
        simp at this
        omega
      have hsig' : ∀ sig, parseMethodDescriptor (pm_y x).desc = some sig → y - 1 = sig.parameters.length := by
        intro sig hsig
        rw [hsig, if_neg (by decide)] at g4
        simp only [Option.map_some, Option.some.injEq] at g4
        omega
      have hst' : st.map (pm_tv N0 b) = (at_.map (pm_tv N0 b)).reverse ++ Value.ref (pm_rho N0 b b0) :: (st.drop y).map (pm_tv N0 b) := by
        rw [hst, List.map_cons, List.reverse_cons, List.append_assoc]
        rfl
      have hM' := hM
      unfold pm_Mt at hM'
      by_cases hw : w < 10000
      · rw [if_pos hw] at glk
        refine pm_back (va_runI (b := pm_rho N0 b b0) (As := at_.map (pm_tv N0 b)) (n := y - 1) (Ts := pm_ts) (rest := (st.drop y).map (pm_tv N0 b)) ⟨hx, hb, hml, hown, hts⟩ hM' ⟨⟨rfl, rfl, hframes, hlocals, hpay, List.mem_singleton.mpr (by rw [gsp.2]), by rw [← gsp.2]; exact hcode, hini, gcl, hsig', hts _ (pm_w_in glk rfl)⟩, gsp.1, hts _ (pm_w_in gin rfl)⟩ ⟨hblind, hpre⟩ rfl (by rw [List.length_map]; exact hlen') hsz hst' hcat hd ⟨hcl, hsl⟩) D rfl K
      · rw [if_neg hw] at glk
        rw [Bool.and_eq_true] at glk
        refine pm_back (va_runIN (host := "OpticalTelegraph") (b := pm_rho N0 b b0) (As := at_.map (pm_tv N0 b)) (n := y - 1) (Ts := pm_ts) (rest := (st.drop y).map (pm_tv N0 b)) ⟨hx, hb, hml, hown, hts⟩ hM' ⟨⟨⟨rfl, rfl, hframes, hlocals, hpay, List.mem_singleton.mpr (by rw [gsp.2])⟩, by rw [← gsp.2]; exact hcode, hini, gcl, hsig', hts _ (pm_w_in glk.2 rfl)⟩, gsp.1, hts _ (pm_w_in gin rfl)⟩ ⟨hblind, hpre⟩ rfl (by rw [List.length_map]; exact hlen') hsz hst' hcat hd ⟨hcl, hsl⟩) D rfl K
end PM
