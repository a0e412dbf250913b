/-! what the pure machine answers, without fuel -/
theorem pm_ex_mono : ∀ (f : Nat) (s : pm_S) (r : pm_R), pm_ex f s = some r → pm_ex (f + 1) s = some r
  | 0, s, r, h => by simp [pm_ex] at h
  | f + 1, s, r, h => by
    rw [pm_ex] at h ⊢
    cases hst : pm_st s with
    | none => rw [hst] at h; cases h
    | some q =>
      rw [hst] at h
      rcases q with r0 | s' | ⟨s1, fr⟩
      · exact h
      · exact pm_ex_mono f s' r h
      · dsimp only at h ⊢
        cases h2 : pm_ex f s1 with
        | none => rw [h2] at h; cases h
        | some w =>
          obtain ⟨v, h'⟩ := w
          rw [h2] at h
          rw [pm_ex_mono f s1 _ h2]
          exact pm_ex_mono f _ r h
theorem pm_ex_le2 {f g : Nat} (hfg : f ≤ g) {s : pm_S} {r : pm_R} (h : pm_ex f s = some r) : pm_ex g s = some r := by
  induction hfg with
  | refl => exact h
  | step _ ih => exact pm_ex_mono _ _ _ ih
/-- the answer, where there is one -/
noncomputable def pm_D (s : pm_S) : Option pm_R := Classical.epsilon fun o => (∃ f r, pm_ex f s = some r ∧ o = some r) ∨ ((¬ ∃ f r, pm_ex f s = some r) ∧ o = none)
theorem pm_D_some {f : Nat} {s : pm_S} {r : pm_R} (h : pm_ex f s = some r) : pm_D s = some r := by
  have hx : ∃ o : Option pm_R, (∃ f r, pm_ex f s = some r ∧ o = some r) ∨ ((¬ ∃ f r, pm_ex f s = some r) ∧ o = none) := ⟨some r, Or.inl ⟨f, r, h, rfl⟩⟩
  have hs := Classical.epsilon_spec hx
  rcases hs with ⟨g, r', hg, e⟩ | ⟨hn, -⟩
  · have h1 := pm_ex_le2 (Nat.le_max_left f g) h
    have h2 := pm_ex_le2 (Nat.le_max_right f g) hg
    have h3 : r = r' := Option.some.inj (h1.symm.trans h2)
    show Classical.epsilon _ = _
    rw [e, h3]
  · exact absurd ⟨f, r, h⟩ hn
theorem pm_D_none {s : pm_S} (h : ∀ f, pm_ex f s = none) : pm_D s = none := by
  have hn : ¬ ∃ f r, pm_ex f s = some r := by
    rintro ⟨f, r, hf⟩
    rw [h f] at hf
    cases hf
  have hx : ∃ o : Option pm_R, (∃ f r, pm_ex f s = some r ∧ o = some r) ∨ ((¬ ∃ f r, pm_ex f s = some r) ∧ o = none) := ⟨none, Or.inr ⟨hn, rfl⟩⟩
  have hs := Classical.epsilon_spec hx
  rcases hs with ⟨g, r', hg, -⟩ | ⟨-, e⟩
  · exact absurd ⟨g, r', hg⟩ hn
  · exact e
theorem pm_D_get {s : pm_S} {r : pm_R} (h : pm_D s = some r) : ∃ f, pm_ex f s = some r := by
  by_cases hx : ∃ f r, pm_ex f s = some r
  · obtain ⟨f, r', hf⟩ := hx
    have := pm_D_some hf
    rw [h] at this
    cases this
    exact ⟨f, hf⟩
  · have : pm_D s = none := pm_D_none fun f => by
      cases hf : pm_ex f s with
      | none => rfl
      | some r' => exact absurd ⟨f, r', hf⟩ hx
    rw [h] at this
    cases this
/-- goes on behind a call -/
def pm_K (fr : pm_F) (r : pm_R) : pm_S := (fr.1, fr.2.1, fr.2.2.1, r.1.toList ++ fr.2.2.2, r.2)
theorem pm_D_ret {s : pm_S} {r : pm_R} (h : pm_st s = some (.inl r)) : pm_D s = some r := pm_D_some (f := 1) (by rw [pm_ex, h])
theorem pm_D_opt {s t : pm_S} (h : ∀ r, (∃ f, pm_ex f s = some r) ↔ (∃ f, pm_ex f t = some r)) : pm_D s = pm_D t := by
  cases ht : pm_D t with
  | some r =>
    obtain ⟨f, hf⟩ := (h r).mpr (pm_D_get ht)
    exact pm_D_some hf
  | none =>
    refine pm_D_none fun f => ?_
    cases hf : pm_ex f s with
    | none => rfl
    | some r =>
      obtain ⟨g, hg⟩ := (h r).mp ⟨f, hf⟩
      rw [pm_D_some hg] at ht
      cases ht
theorem pm_D_go {s t : pm_S} (h : pm_st s = some (.inr (.inl t))) : pm_D s = pm_D t := by
  refine pm_D_opt fun r => ⟨fun ⟨f, hf⟩ => ?_, fun ⟨f, hf⟩ => ⟨f + 1, by rw [pm_ex, h]; exact hf⟩⟩
  cases f with
  | zero => simp [pm_ex] at hf
  | succ f =>
    rw [pm_ex, h] at hf
    exact ⟨f, hf⟩
theorem pm_D_call {s s1 : pm_S} {fr : pm_F} (h : pm_st s = some (.inr (.inr (s1, fr)))) : pm_D s = (pm_D s1).bind fun r => pm_D (pm_K fr r) := by
  cases h1 : pm_D s1 with
  | none =>
    refine pm_D_none fun f => ?_
    cases f with
    | zero => rfl
    | succ f =>
      rw [pm_ex, h]
      dsimp only
      cases h2 : pm_ex f s1 with
      | none => rfl
      | some r => rw [pm_D_some h2] at h1; cases h1
  | some r =>
    obtain ⟨f, hf⟩ := pm_D_get h1
    show pm_D s = pm_D (pm_K fr r)
    refine pm_D_opt fun q => ⟨fun ⟨g, hg⟩ => ?_, fun ⟨g, hg⟩ => ?_⟩
    · cases g with
      | zero => simp [pm_ex] at hg
      | succ g =>
        rw [pm_ex, h] at hg
        dsimp only at hg
        cases h2 : pm_ex g s1 with
        | none => rw [h2] at hg; cases hg
        | some r' =>
          have : r = r' := by
            have := pm_D_some h2
            rw [h1] at this
            exact Option.some.inj this
          subst this
          obtain ⟨v, h'⟩ := r
          rw [h2] at hg
          exact ⟨g, hg⟩
    · refine ⟨max f g + 1, ?_⟩
      rw [pm_ex, h]
      dsimp only
      rw [pm_ex_le2 (Nat.le_max_left f g) hf]
      obtain ⟨v, h'⟩ := r
      exact pm_ex_le2 (Nat.le_max_right f g) hg
theorem pm_D_stuck {s : pm_S} (h : pm_st s = none) : pm_D s = none := pm_D_none fun f => by
  cases f with
  | zero => rfl
  | succ f => rw [pm_ex, h]
theorem pm_st_of {m pc : Nat} {ls st : List Value} {h : pm_H} {i : pm_I} (hc : pm_code m pc = some i) : pm_st (m, pc, ls, st, h) = pm_ins i m pc ls st h := by
  unfold pm_st
  dsimp only
  rw [hc]
