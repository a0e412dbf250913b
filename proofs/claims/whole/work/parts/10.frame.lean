/-! the steps of one frame together -/
/-- a later pure heap: more cells, the script as it was -/
def pm_le (h h' : pm_H) : Prop := h.1 ≤ h'.1 ∧ h.2.1 ≤ h'.2.1 ∧ (h.1 ≤ pm_scr → h'.1 ≤ pm_scr ∧ h'.2.2.1 pm_scr = h.2.2.1 pm_scr ∧ h'.2.2.2.1 pm_scr = h.2.2.2.1 pm_scr)
theorem pm_le.refl (h : pm_H) : pm_le h h := ⟨Nat.le_refl _, Nat.le_refl _, fun q => ⟨q, rfl, rfl⟩⟩
theorem pm_le.trans {h1 h2 h3 : pm_H} (a : pm_le h1 h2) (b : pm_le h2 h3) : pm_le h1 h3 := by
  refine ⟨Nat.le_trans a.1 b.1, Nat.le_trans a.2.1 b.2.1, fun q => ?_⟩
  obtain ⟨a1, a2, a3⟩ := a.2.2 q
  obtain ⟨b1, b2, b3⟩ := b.2.2 a1
  exact ⟨b1, b2.trans a2, b3.trans a3⟩
def pm_alloc (i : Instr) : Bool := match i with
  | .newarray _ => true
  | .anewarray _ => true
  | .new _ => true
  | _ => false
theorem pm_le_I {h : pm_H} {a j : Nat} {v : Int32} (ha : a < h.1) : pm_le h (pm_setI h a j v) := ⟨Nat.le_refl _, Nat.le_refl _, fun q => ⟨q, rfl, by show (if pm_scr = a then _ else _) = _; rw [if_neg (by omega)]⟩⟩
theorem pm_le_R {h : pm_H} {a j : Nat} {v : Option Nat} : pm_le h (pm_setR h a j v) := ⟨Nat.le_refl _, Nat.le_refl _, fun q => ⟨q, rfl, rfl⟩⟩
theorem pm_le_C {h : pm_H} {r d sp dp n : Nat} (ha : d < h.1) : pm_le h (pm_cpy h r d sp dp n) := ⟨Nat.le_refl _, Nat.le_refl _, fun q => ⟨q, rfl, by show (if pm_scr = d then _ else _) = _; rw [if_neg (by omega)]⟩⟩
theorem pm_le_N {h : pm_H} {k len : Nat} (ha : h.1 < pm_scr) : pm_le h (pm_new h k len) := ⟨Nat.le_succ _, Nat.le_add_right _ _, fun q => ⟨ha, by show (if pm_scr = h.1 then _ else _) = _; rw [if_neg (by omega)], by show (if pm_scr = h.1 then _ else _) = _; rw [if_neg (by omega)]⟩⟩
section PQ
variable {m pc m' pc' : Nat} {ls st ls' st' : List Value} {h h' : pm_H}
theorem pm_q_go {pc0 : Nat} {ls0 st0 : List Value} (h1 : pm_go m pc0 ls0 st0 h = some (.inr (.inl (m', pc', ls', st', h')))) : m' = m ∧ pm_le h h' ∧ h'.1 = h.1 ∧ h'.2.1 = h.2.1 := by
  simp only [pm_go, Option.some.injEq, Sum.inr.injEq, Sum.inl.injEq, Prod.mk.injEq] at h1
  obtain ⟨rfl, rfl, rfl, rfl, rfl⟩ := h1
  exact ⟨rfl, pm_le.refl _, rfl, rfl⟩
theorem pm_q_aload {k : Nat} (h1 : pm_aload k m pc ls st h = some (.inr (.inl (m', pc', ls', st', h')))) : m' = m ∧ pm_le h h' ∧ h'.1 = h.1 ∧ h'.2.1 = h.2.1 := by
  unfold pm_aload at h1
  all_goals try split at h1
  all_goals first
    | (cases h1; done)
    | (simp only [pm_go, Option.some.injEq, Sum.inr.injEq, Sum.inl.injEq, Prod.mk.injEq] at h1; obtain ⟨rfl, rfl, rfl, rfl, rfl⟩ := h1; exact ⟨rfl, pm_le.refl _, rfl, rfl⟩)
theorem pm_q_iload {k : Nat} (h1 : pm_iload k m pc ls st h = some (.inr (.inl (m', pc', ls', st', h')))) : m' = m ∧ pm_le h h' ∧ h'.1 = h.1 ∧ h'.2.1 = h.2.1 := by
  unfold pm_iload at h1
  all_goals try split at h1
  all_goals first
    | (cases h1; done)
    | (simp only [pm_go, Option.some.injEq, Sum.inr.injEq, Sum.inl.injEq, Prod.mk.injEq] at h1; obtain ⟨rfl, rfl, rfl, rfl, rfl⟩ := h1; exact ⟨rfl, pm_le.refl _, rfl, rfl⟩)
theorem pm_q_astore {k : Nat} (h1 : pm_astore k m pc ls st h = some (.inr (.inl (m', pc', ls', st', h')))) : m' = m ∧ pm_le h h' ∧ h'.1 = h.1 ∧ h'.2.1 = h.2.1 := by
  unfold pm_astore at h1
  all_goals try split at h1
  all_goals try split at h1
  all_goals first
    | (cases h1; done)
    | (simp only [pm_go, Option.some.injEq, Sum.inr.injEq, Sum.inl.injEq, Prod.mk.injEq] at h1; obtain ⟨rfl, rfl, rfl, rfl, rfl⟩ := h1; exact ⟨rfl, pm_le.refl _, rfl, rfl⟩)
theorem pm_q_istore {k : Nat} (h1 : pm_istore k m pc ls st h = some (.inr (.inl (m', pc', ls', st', h')))) : m' = m ∧ pm_le h h' ∧ h'.1 = h.1 ∧ h'.2.1 = h.2.1 := by
  unfold pm_istore at h1
  all_goals try split at h1
  all_goals try split at h1
  all_goals first
    | (cases h1; done)
    | (simp only [pm_go, Option.some.injEq, Sum.inr.injEq, Sum.inl.injEq, Prod.mk.injEq] at h1; obtain ⟨rfl, rfl, rfl, rfl, rfl⟩ := h1; exact ⟨rfl, pm_le.refl _, rfl, rfl⟩)
theorem pm_q_iinc {k : Nat} {n : Int} (h1 : pm_iinc k n m pc ls st h = some (.inr (.inl (m', pc', ls', st', h')))) : m' = m ∧ pm_le h h' ∧ h'.1 = h.1 ∧ h'.2.1 = h.2.1 := by
  unfold pm_iinc at h1
  all_goals try split at h1
  all_goals try split at h1
  all_goals first
    | (cases h1; done)
    | (simp only [pm_go, Option.some.injEq, Sum.inr.injEq, Sum.inl.injEq, Prod.mk.injEq] at h1; obtain ⟨rfl, rfl, rfl, rfl, rfl⟩ := h1; exact ⟨rfl, pm_le.refl _, rfl, rfl⟩)
theorem pm_q_op2 {f : Int32 → Int32 → Int32} (h1 : pm_op2 f m pc ls st h = some (.inr (.inl (m', pc', ls', st', h')))) : m' = m ∧ pm_le h h' ∧ h'.1 = h.1 ∧ h'.2.1 = h.2.1 := by
  unfold pm_op2 at h1
  all_goals try split at h1
  all_goals first
    | (cases h1; done)
    | (simp only [pm_go, Option.some.injEq, Sum.inr.injEq, Sum.inl.injEq, Prod.mk.injEq] at h1; obtain ⟨rfl, rfl, rfl, rfl, rfl⟩ := h1; exact ⟨rfl, pm_le.refl _, rfl, rfl⟩)
theorem pm_q_irem (h1 : pm_irem m pc ls st h = some (.inr (.inl (m', pc', ls', st', h')))) : m' = m ∧ pm_le h h' ∧ h'.1 = h.1 ∧ h'.2.1 = h.2.1 := by
  unfold pm_irem at h1
  all_goals try split at h1
  all_goals try split at h1
  all_goals first
    | (cases h1; done)
    | (simp only [pm_go, Option.some.injEq, Sum.inr.injEq, Sum.inl.injEq, Prod.mk.injEq] at h1; obtain ⟨rfl, rfl, rfl, rfl, rfl⟩ := h1; exact ⟨rfl, pm_le.refl _, rfl, rfl⟩)
theorem pm_q_i2c (h1 : pm_i2c m pc ls st h = some (.inr (.inl (m', pc', ls', st', h')))) : m' = m ∧ pm_le h h' ∧ h'.1 = h.1 ∧ h'.2.1 = h.2.1 := by
  unfold pm_i2c at h1
  all_goals try split at h1
  all_goals first
    | (cases h1; done)
    | (simp only [pm_go, Option.some.injEq, Sum.inr.injEq, Sum.inl.injEq, Prod.mk.injEq] at h1; obtain ⟨rfl, rfl, rfl, rfl, rfl⟩ := h1; exact ⟨rfl, pm_le.refl _, rfl, rfl⟩)
theorem pm_q_dup (h1 : pm_dup m pc ls st h = some (.inr (.inl (m', pc', ls', st', h')))) : m' = m ∧ pm_le h h' ∧ h'.1 = h.1 ∧ h'.2.1 = h.2.1 := by
  unfold pm_dup at h1
  all_goals try split at h1
  all_goals first
    | (cases h1; done)
    | (simp only [pm_go, Option.some.injEq, Sum.inr.injEq, Sum.inl.injEq, Prod.mk.injEq] at h1; obtain ⟨rfl, rfl, rfl, rfl, rfl⟩ := h1; exact ⟨rfl, pm_le.refl _, rfl, rfl⟩)
theorem pm_q_dup2 (h1 : pm_dup2 m pc ls st h = some (.inr (.inl (m', pc', ls', st', h')))) : m' = m ∧ pm_le h h' ∧ h'.1 = h.1 ∧ h'.2.1 = h.2.1 := by
  unfold pm_dup2 at h1
  all_goals try split at h1
  all_goals first
    | (cases h1; done)
    | (simp only [pm_go, Option.some.injEq, Sum.inr.injEq, Sum.inl.injEq, Prod.mk.injEq] at h1; obtain ⟨rfl, rfl, rfl, rfl, rfl⟩ := h1; exact ⟨rfl, pm_le.refl _, rfl, rfl⟩)
theorem pm_q_cmp {cnd : ClassFile.Cond} {x y : Int32} {tg : Nat} (h1 : pm_cmp cnd x y m tg pc ls st h = some (.inr (.inl (m', pc', ls', st', h')))) : m' = m ∧ pm_le h h' ∧ h'.1 = h.1 ∧ h'.2.1 = h.2.1 := by
  unfold pm_cmp at h1
  all_goals try split at h1
  all_goals try split at h1
  all_goals first
    | (cases h1; done)
    | (simp only [pm_go, Option.some.injEq, Sum.inr.injEq, Sum.inl.injEq, Prod.mk.injEq] at h1; obtain ⟨rfl, rfl, rfl, rfl, rfl⟩ := h1; exact ⟨rfl, pm_le.refl _, rfl, rfl⟩)
theorem pm_q_icmp {cnd : ClassFile.Cond} {tg : Nat} (h1 : pm_icmp cnd m tg pc ls st h = some (.inr (.inl (m', pc', ls', st', h')))) : m' = m ∧ pm_le h h' ∧ h'.1 = h.1 ∧ h'.2.1 = h.2.1 := by
  unfold pm_icmp at h1
  split at h1
  · exact pm_q_cmp h1
  · cases h1
theorem pm_q_ifc {cnd : ClassFile.Cond} {tg : Nat} (h1 : pm_ifc cnd m tg pc ls st h = some (.inr (.inl (m', pc', ls', st', h')))) : m' = m ∧ pm_le h h' ∧ h'.1 = h.1 ∧ h'.2.1 = h.2.1 := by
  unfold pm_ifc at h1
  split at h1
  · exact pm_q_cmp h1
  · cases h1
theorem pm_q_tsw {dflt lo hi : Int} {offs : Array Int} (h1 : pm_tsw dflt lo hi offs m pc ls st h = some (.inr (.inl (m', pc', ls', st', h')))) : m' = m ∧ pm_le h h' ∧ h'.1 = h.1 ∧ h'.2.1 = h.2.1 := by
  unfold pm_tsw at h1
  all_goals try split at h1
  all_goals try split at h1
  all_goals try split at h1
  all_goals first
    | (cases h1; done)
    | (simp only [pm_go, Option.some.injEq, Sum.inr.injEq, Sum.inl.injEq, Prod.mk.injEq] at h1; obtain ⟨rfl, rfl, rfl, rfl, rfl⟩ := h1; exact ⟨rfl, pm_le.refl _, rfl, rfl⟩)
theorem pm_q_getf {x y z : Nat} (h1 : pm_getf x y z m pc ls st h = some (.inr (.inl (m', pc', ls', st', h')))) : m' = m ∧ pm_le h h' ∧ h'.1 = h.1 ∧ h'.2.1 = h.2.1 := by
  unfold pm_getf at h1
  all_goals try split at h1
  all_goals try split at h1
  all_goals try split at h1
  all_goals first
    | (cases h1; done)
    | (simp only [pm_go, Option.some.injEq, Sum.inr.injEq, Sum.inl.injEq, Prod.mk.injEq] at h1; obtain ⟨rfl, rfl, rfl, rfl, rfl⟩ := h1; exact ⟨rfl, pm_le.refl _, rfl, rfl⟩)
theorem pm_q_ald {k : Nat} (h1 : pm_ald k m pc ls st h = some (.inr (.inl (m', pc', ls', st', h')))) : m' = m ∧ pm_le h h' ∧ h'.1 = h.1 ∧ h'.2.1 = h.2.1 := by
  unfold pm_ald at h1
  all_goals try split at h1
  all_goals try split at h1
  all_goals first
    | (cases h1; done)
    | (simp only [pm_go, Option.some.injEq, Sum.inr.injEq, Sum.inl.injEq, Prod.mk.injEq] at h1; obtain ⟨rfl, rfl, rfl, rfl, rfl⟩ := h1; exact ⟨rfl, pm_le.refl _, rfl, rfl⟩)
theorem pm_q_aald (h1 : pm_aald m pc ls st h = some (.inr (.inl (m', pc', ls', st', h')))) : m' = m ∧ pm_le h h' ∧ h'.1 = h.1 ∧ h'.2.1 = h.2.1 := by
  unfold pm_aald at h1
  all_goals try split at h1
  all_goals try split at h1
  all_goals first
    | (cases h1; done)
    | (simp only [pm_go, Option.some.injEq, Sum.inr.injEq, Sum.inl.injEq, Prod.mk.injEq] at h1; obtain ⟨rfl, rfl, rfl, rfl, rfl⟩ := h1; exact ⟨rfl, pm_le.refl _, rfl, rfl⟩)
theorem pm_q_alen (h1 : pm_alen m pc ls st h = some (.inr (.inl (m', pc', ls', st', h')))) : m' = m ∧ pm_le h h' ∧ h'.1 = h.1 ∧ h'.2.1 = h.2.1 := by
  unfold pm_alen at h1
  all_goals try split at h1
  all_goals try split at h1
  all_goals first
    | (cases h1; done)
    | (simp only [pm_go, Option.some.injEq, Sum.inr.injEq, Sum.inl.injEq, Prod.mk.injEq] at h1; obtain ⟨rfl, rfl, rfl, rfl, rfl⟩ := h1; exact ⟨rfl, pm_le.refl _, rfl, rfl⟩)
theorem pm_q_oinit (h1 : pm_oinit m pc ls st h = some (.inr (.inl (m', pc', ls', st', h')))) : m' = m ∧ pm_le h h' ∧ h'.1 = h.1 ∧ h'.2.1 = h.2.1 := by
  unfold pm_oinit at h1
  all_goals try split at h1
  all_goals try split at h1
  all_goals first
    | (cases h1; done)
    | (simp only [pm_go, Option.some.injEq, Sum.inr.injEq, Sum.inl.injEq, Prod.mk.injEq] at h1; obtain ⟨rfl, rfl, rfl, rfl, rfl⟩ := h1; exact ⟨rfl, pm_le.refl _, rfl, rfl⟩)
theorem pm_q_mm {z : Nat} (h1 : pm_mm z m pc ls st h = some (.inr (.inl (m', pc', ls', st', h')))) : m' = m ∧ pm_le h h' ∧ h'.1 = h.1 ∧ h'.2.1 = h.2.1 := by
  unfold pm_mm at h1
  all_goals try split at h1
  all_goals try split at h1
  all_goals first
    | (cases h1; done)
    | (simp only [pm_go, Option.some.injEq, Sum.inr.injEq, Sum.inl.injEq, Prod.mk.injEq] at h1; obtain ⟨rfl, rfl, rfl, rfl, rfl⟩ := h1; exact ⟨rfl, pm_le.refl _, rfl, rfl⟩)
theorem pm_q_putf {x y z : Nat} (h1 : pm_putf x y z m pc ls st h = some (.inr (.inl (m', pc', ls', st', h')))) : m' = m ∧ pm_le h h' ∧ h'.1 = h.1 ∧ h'.2.1 = h.2.1 := by
  unfold pm_putf at h1
  split at h1
  · split at h1
    · rename_i hcond
      simp only [pm_go, Option.some.injEq, Sum.inr.injEq, Sum.inl.injEq, Prod.mk.injEq] at h1
      obtain ⟨rfl, rfl, rfl, rfl, rfl⟩ := h1
      exact ⟨rfl, pm_le_I hcond.1, rfl, rfl⟩
    · cases h1
  · split at h1
    · rename_i hcond
      simp only [pm_go, Option.some.injEq, Sum.inr.injEq, Sum.inl.injEq, Prod.mk.injEq] at h1
      obtain ⟨rfl, rfl, rfl, rfl, rfl⟩ := h1
      exact ⟨rfl, pm_le_R, rfl, rfl⟩
    · cases h1
  · cases h1
theorem pm_q_ast {k : Nat} (h1 : pm_ast k m pc ls st h = some (.inr (.inl (m', pc', ls', st', h')))) : m' = m ∧ pm_le h h' ∧ h'.1 = h.1 ∧ h'.2.1 = h.2.1 := by
  unfold pm_ast at h1
  split at h1
  · split at h1
    · rename_i hcond
      simp only [pm_go, Option.some.injEq, Sum.inr.injEq, Sum.inl.injEq, Prod.mk.injEq] at h1
      obtain ⟨rfl, rfl, rfl, rfl, rfl⟩ := h1
      exact ⟨rfl, pm_le_I hcond.1, rfl, rfl⟩
    · cases h1
  · cases h1
theorem pm_q_aast (h1 : pm_aast m pc ls st h = some (.inr (.inl (m', pc', ls', st', h')))) : m' = m ∧ pm_le h h' ∧ h'.1 = h.1 ∧ h'.2.1 = h.2.1 := by
  unfold pm_aast at h1
  split at h1
  · split at h1
    · rename_i hcond
      simp only [pm_go, Option.some.injEq, Sum.inr.injEq, Sum.inl.injEq, Prod.mk.injEq] at h1
      obtain ⟨rfl, rfl, rfl, rfl, rfl⟩ := h1
      exact ⟨rfl, pm_le_R, rfl, rfl⟩
    · cases h1
  · cases h1
theorem pm_q_acopy (h1 : pm_acopy m pc ls st h = some (.inr (.inl (m', pc', ls', st', h')))) : m' = m ∧ pm_le h h' ∧ h'.1 = h.1 ∧ h'.2.1 = h.2.1 := by
  unfold pm_acopy at h1
  split at h1
  · split at h1
    · rename_i hcond
      simp only [pm_go, Option.some.injEq, Sum.inr.injEq, Sum.inl.injEq, Prod.mk.injEq] at h1
      obtain ⟨rfl, rfl, rfl, rfl, rfl⟩ := h1
      exact ⟨rfl, pm_le_C hcond.2.1, rfl, rfl⟩
    · cases h1
  · cases h1
theorem pm_q_newa {k : Nat} (h1 : pm_newa k m pc ls st h = some (.inr (.inl (m', pc', ls', st', h')))) : m' = m ∧ pm_le h h' := by
  unfold pm_newa at h1
  split at h1
  · split at h1
    · rename_i hcond
      simp only [pm_go, Option.some.injEq, Sum.inr.injEq, Sum.inl.injEq, Prod.mk.injEq] at h1
      obtain ⟨rfl, rfl, rfl, rfl, rfl⟩ := h1
      exact ⟨rfl, pm_le_N hcond.2.2⟩
    · cases h1
  · cases h1
theorem pm_q_newo {k : Nat} (h1 : pm_newo k m pc ls st h = some (.inr (.inl (m', pc', ls', st', h')))) : m' = m ∧ pm_le h h' := by
  unfold pm_newo at h1
  split at h1
  · rename_i hcond
    simp only [pm_go, Option.some.injEq, Sum.inr.injEq, Sum.inl.injEq, Prod.mk.injEq] at h1
    obtain ⟨rfl, rfl, rfl, rfl, rfl⟩ := h1
    exact ⟨rfl, pm_le_N hcond⟩
  · cases h1
theorem pm_q_call {x y z : Nat} (h1 : pm_call x y z m pc ls st h = some (.inr (.inl (m', pc', ls', st', h')))) : False := by
  unfold pm_call at h1
  split at h1
  · simp at h1
  · cases h1
theorem pm_q_iret {x : Nat} (h1 : pm_iret x st h = some (.inr (.inl (m', pc', ls', st', h')))) : False := by
  unfold pm_iret at h1
  split at h1
  · split at h1
    · simp at h1
    · cases h1
  · cases h1
theorem pm_q_vret (h1 : pm_vret st h = some (.inr (.inl (m', pc', ls', st', h')))) : False := by
  unfold pm_vret at h1
  split at h1
  · simp at h1
  · cases h1
end PQ
section PM
variable {p : Program} {l : Launch} {e : Env} {R : Room} {s : State} {mi : MethodId} {args : Array Value} {below : List Frame} {meth : Method} {c : Code} {cells slots : Nat} {Q : State → Prop} {N0 b : Nat} {dC : Nat → ClassId} {dI : Nat → Nat → Nat} {cA : Nat → ClassId} {m pc m' pc' : Nat} {ls st ls' st' : List Value} {h h' : pm_H}

set_option maxHeartbeats 4000000 in
theorem pm_step {i : pm_I} (hco : pm_code m pc = some i) (h1 : pm_ins i m pc ls st h = some (.inr (.inl (m', pc', ls', st', h')))) (E : pm_En m p R s mi args meth c dC dI cA) (hSc : pm_Sc N0 b m s h) (hcl : cells + (h'.1 - h.1) ≤ R.cells) (hsl : slots + (h'.2.1 - h.2.1) ≤ R.slots) (K : (pm_Kt p l e R s mi args below meth c Q N0 b dC dI cA m (cells + (h'.1 - h.1)) (slots + (h'.2.1 - h.2.1)) pc' ls' st' h')) : (pm_Kt p l e R s mi args below meth c Q N0 b dC dI cA m cells slots pc ls st h) := by
  have hchk := pm_chk_of hco
  obtain ⟨ins, len, x, y, z, w⟩ := i
  unfold pm_chk at hchk
  rw [Bool.and_eq_true, decide_eq_true_eq] at hchk
  obtain ⟨hd, hck⟩ := hchk
  have hd : decode (pm_b m) pc = .ok (ins, len) := hd
  unfold pm_ins at h1
  have cv : m' = m ∧ pm_le h h' ∧ h'.1 = h.1 ∧ h'.2.1 = h.2.1 → (pm_Kt p l e R s mi args below meth c Q N0 b dC dI cA m cells slots pc' ls' st' h') := by
    intro hq
    obtain ⟨-, -, q3, q4⟩ := hq
    rw [q3, q4, Nat.sub_self, Nat.sub_self] at K
    exact K
  have cc0 : cells ≤ R.cells := Nat.le_trans (Nat.le_add_right _ _) hcl
  have ss0 : slots ≤ R.slots := Nat.le_trans (Nat.le_add_right _ _) hsl
  dsimp only at h1 hck
  split at h1
  · have K := cv (pm_q_aload h1)
    simp only [Bool.and_eq_true, decide_eq_true_eq, Array.all_eq_true_iff_forall_mem] at hck
    obtain rfl := hck
    exact pm_s_aload_n E hd h1 K
  · have K := cv (pm_q_aload h1)
    simp only [Bool.and_eq_true, decide_eq_true_eq, Array.all_eq_true_iff_forall_mem] at hck
    obtain rfl := hck
    exact pm_s_aload E hd h1 K
  · have K := cv (pm_q_iload h1)
    simp only [Bool.and_eq_true, decide_eq_true_eq, Array.all_eq_true_iff_forall_mem] at hck
    obtain rfl := hck
    exact pm_s_iload_n E hd h1 K
  · have K := cv (pm_q_iload h1)
    simp only [Bool.and_eq_true, decide_eq_true_eq, Array.all_eq_true_iff_forall_mem] at hck
    obtain rfl := hck
    exact pm_s_iload E hd h1 K
  · have K := cv (pm_q_astore h1)
    simp only [Bool.and_eq_true, decide_eq_true_eq, Array.all_eq_true_iff_forall_mem] at hck
    obtain rfl := hck
    exact pm_s_astore_n E hd h1 K
  · have K := cv (pm_q_astore h1)
    simp only [Bool.and_eq_true, decide_eq_true_eq, Array.all_eq_true_iff_forall_mem] at hck
    obtain rfl := hck
    exact pm_s_astore E hd h1 K
  · have K := cv (pm_q_istore h1)
    simp only [Bool.and_eq_true, decide_eq_true_eq, Array.all_eq_true_iff_forall_mem] at hck
    obtain rfl := hck
    exact pm_s_istore_n E hd h1 K
  · have K := cv (pm_q_istore h1)
    simp only [Bool.and_eq_true, decide_eq_true_eq, Array.all_eq_true_iff_forall_mem] at hck
    obtain rfl := hck
    exact pm_s_istore E hd h1 K
  · have K := cv (pm_q_iinc h1)
    simp only [Bool.and_eq_true, decide_eq_true_eq, Array.all_eq_true_iff_forall_mem] at hck
    obtain rfl := hck
    exact pm_s_iinc E hd h1 K
  · have K := cv (pm_q_go h1)
    simp only [Bool.and_eq_true, decide_eq_true_eq, Array.all_eq_true_iff_forall_mem] at hck
    obtain rfl := hck
    exact pm_s_iconst E hd h1 K
  · have K := cv (pm_q_go h1)
    simp only [Bool.and_eq_true, decide_eq_true_eq, Array.all_eq_true_iff_forall_mem] at hck
    obtain rfl := hck
    exact pm_s_bipush E hd h1 K
  · have K := cv (pm_q_go h1)
    simp only [Bool.and_eq_true, decide_eq_true_eq, Array.all_eq_true_iff_forall_mem] at hck
    obtain rfl := hck
    exact pm_s_sipush E hd h1 K
  · have K := cv (pm_q_go h1)
    simp only [Bool.and_eq_true, decide_eq_true_eq, Array.all_eq_true_iff_forall_mem] at hck
    obtain ⟨rfl, hck⟩ := hck
    exact pm_s_ldc E hd hck h1 K
  · have K := cv (pm_q_op2 h1)
    simp only [Bool.and_eq_true, decide_eq_true_eq, Array.all_eq_true_iff_forall_mem] at hck
    obtain rfl := hck
    exact pm_s_iadd E hd h1 K
  · have K := cv (pm_q_op2 h1)
    simp only [Bool.and_eq_true, decide_eq_true_eq, Array.all_eq_true_iff_forall_mem] at hck
    obtain rfl := hck
    exact pm_s_isub E hd h1 K
  · have K := cv (pm_q_op2 h1)
    simp only [Bool.and_eq_true, decide_eq_true_eq, Array.all_eq_true_iff_forall_mem] at hck
    obtain rfl := hck
    exact pm_s_imul E hd h1 K
  · have K := cv (pm_q_op2 h1)
    simp only [Bool.and_eq_true, decide_eq_true_eq, Array.all_eq_true_iff_forall_mem] at hck
    obtain rfl := hck
    exact pm_s_iand E hd h1 K
  · have K := cv (pm_q_irem h1)
    simp only [Bool.and_eq_true, decide_eq_true_eq, Array.all_eq_true_iff_forall_mem] at hck
    obtain rfl := hck
    exact pm_s_irem E hd h1 K
  · have K := cv (pm_q_i2c h1)
    simp only [Bool.and_eq_true, decide_eq_true_eq, Array.all_eq_true_iff_forall_mem] at hck
    obtain rfl := hck
    exact pm_s_i2c E hd h1 K
  · have K := cv (pm_q_dup h1)
    simp only [Bool.and_eq_true, decide_eq_true_eq, Array.all_eq_true_iff_forall_mem] at hck
    obtain rfl := hck
    exact pm_s_dup E hd h1 K
  · have K := cv (pm_q_dup2 h1)
    simp only [Bool.and_eq_true, decide_eq_true_eq, Array.all_eq_true_iff_forall_mem] at hck
    obtain rfl := hck
    exact pm_s_dup2 E hd h1 K
  · have K := cv (pm_q_go h1)
    simp only [Bool.and_eq_true, decide_eq_true_eq, Array.all_eq_true_iff_forall_mem] at hck
    obtain ⟨rfl, hck⟩ := hck
    exact pm_s_goto E hd hck h1 K
  · have K := cv (pm_q_icmp h1)
    simp only [Bool.and_eq_true, decide_eq_true_eq, Array.all_eq_true_iff_forall_mem] at hck
    obtain ⟨rfl, hck⟩ := hck
    exact pm_s_icmp E hd hck h1 K
  · have K := cv (pm_q_ifc h1)
    simp only [Bool.and_eq_true, decide_eq_true_eq, Array.all_eq_true_iff_forall_mem] at hck
    obtain ⟨rfl, hck⟩ := hck
    exact pm_s_ifc E hd hck h1 K
  · have K := cv (pm_q_tsw h1)
    simp only [Bool.and_eq_true, decide_eq_true_eq, Array.all_eq_true_iff_forall_mem] at hck
    skip
    exact pm_s_tsw E hd hck.1 (fun o ho => by have := hck.2 o ho; simpa using this) h1 K
  · have K := cv (pm_q_getf h1)
    simp only [Bool.and_eq_true, decide_eq_true_eq, Array.all_eq_true_iff_forall_mem] at hck
    obtain ⟨rfl, hck⟩ := hck
    exact pm_s_getf E hd hck h1 K
  · have K := cv (pm_q_putf h1)
    simp only [Bool.and_eq_true, decide_eq_true_eq, Array.all_eq_true_iff_forall_mem] at hck
    obtain ⟨⟨rfl, hck1⟩, hck2⟩ := hck; have hck := And.intro hck1 hck2
    exact pm_s_putf E hd hck.1 hck.2 h1 K
  · have K := cv (pm_q_ald h1)
    simp only [Bool.and_eq_true, decide_eq_true_eq, Array.all_eq_true_iff_forall_mem] at hck
    obtain rfl := hck
    exact pm_s_iaload E hSc hd h1 K
  · have K := cv (pm_q_ald h1)
    simp only [Bool.and_eq_true, decide_eq_true_eq, Array.all_eq_true_iff_forall_mem] at hck
    obtain rfl := hck
    exact pm_s_baload E hSc hd h1 K
  · have K := cv (pm_q_ald h1)
    simp only [Bool.and_eq_true, decide_eq_true_eq, Array.all_eq_true_iff_forall_mem] at hck
    obtain rfl := hck
    exact pm_s_caload E hSc hd h1 K
  · have K := cv (pm_q_ast h1)
    simp only [Bool.and_eq_true, decide_eq_true_eq, Array.all_eq_true_iff_forall_mem] at hck
    obtain rfl := hck
    exact pm_s_iastore E hd h1 K
  · have K := cv (pm_q_ast h1)
    simp only [Bool.and_eq_true, decide_eq_true_eq, Array.all_eq_true_iff_forall_mem] at hck
    obtain rfl := hck
    exact pm_s_bastore E hd h1 K
  · have K := cv (pm_q_ast h1)
    simp only [Bool.and_eq_true, decide_eq_true_eq, Array.all_eq_true_iff_forall_mem] at hck
    obtain rfl := hck
    exact pm_s_castore E hd h1 K
  · have K := cv (pm_q_aald h1)
    simp only [Bool.and_eq_true, decide_eq_true_eq, Array.all_eq_true_iff_forall_mem] at hck
    obtain rfl := hck
    exact pm_s_aaload E hd h1 K
  · have K := cv (pm_q_aast h1)
    simp only [Bool.and_eq_true, decide_eq_true_eq, Array.all_eq_true_iff_forall_mem] at hck
    obtain rfl := hck
    exact pm_s_aastore E hd h1 K
  · have K := cv (pm_q_alen h1)
    simp only [Bool.and_eq_true, decide_eq_true_eq, Array.all_eq_true_iff_forall_mem] at hck
    obtain rfl := hck
    exact pm_s_alen E hSc hd h1 K
  · simp only [Bool.and_eq_true, decide_eq_true_eq, Array.all_eq_true_iff_forall_mem] at hck
    obtain ⟨⟨⟨rfl, k1⟩, k2⟩, k3⟩ := hck
    exact pm_s_newarray E hd k1 k2 k3 h1 hcl hsl K
  · simp only [Bool.and_eq_true, decide_eq_true_eq, Array.all_eq_true_iff_forall_mem] at hck
    obtain ⟨⟨⟨rfl, k1⟩, k2⟩, k3⟩ := hck
    exact pm_s_anewarray E hd k1 k2 k3 h1 hcl hsl K
  · simp only [Bool.and_eq_true, decide_eq_true_eq, Array.all_eq_true_iff_forall_mem] at hck
    obtain ⟨⟨rfl, k1⟩, k2⟩ := hck
    exact pm_s_new E hd k1 k2 h1 hcl hsl K
  · exact (pm_q_call h1).elim
  · simp only [Bool.and_eq_true, decide_eq_true_eq, Array.all_eq_true_iff_forall_mem] at hck
    obtain ⟨rfl, hck⟩ := hck
    split at h1
    · rename_i hz
      have K := cv (pm_q_acopy h1)
      rw [if_pos hz] at hck
      simp only [Bool.and_eq_true, decide_eq_true_eq] at hck
      exact pm_s_acopy E hd hck.1.1 hck.1.2 hck.2 h1 K
    · rename_i hz
      rw [if_neg hz] at hck
      split at h1
      · rename_i hz2
        have K := cv (pm_q_mm h1)
        rw [if_pos hz2] at hck
        simp only [Bool.and_eq_true, decide_eq_true_eq] at hck
        exact pm_s_mm E hd hck.1.1 hck.1.2 hck.2 cc0 ss0 h1 K
      · exact (pm_q_call h1).elim
  · simp only [Bool.and_eq_true, decide_eq_true_eq, Array.all_eq_true_iff_forall_mem] at hck
    obtain ⟨rfl, hck⟩ := hck
    split at h1
    · rename_i hz
      have K := cv (pm_q_oinit h1)
      rw [if_pos hz] at hck
      simp only [Bool.and_eq_true, decide_eq_true_eq] at hck
      exact pm_s_oinit E hd hck.1.1 hck.1.2 hck.2 h1 K
    · exact (pm_q_call h1).elim
  · exact (pm_q_iret h1).elim
  · exact (pm_q_vret h1).elim
  · cases h1

theorem pm_step_le {i : pm_I} (h1 : pm_ins i m pc ls st h = some (.inr (.inl (m', pc', ls', st', h')))) : m' = m ∧ pm_le h h' := by
  unfold pm_ins at h1
  split at h1
  · exact ⟨(pm_q_aload h1).1, (pm_q_aload h1).2.1⟩
  · exact ⟨(pm_q_aload h1).1, (pm_q_aload h1).2.1⟩
  · exact ⟨(pm_q_iload h1).1, (pm_q_iload h1).2.1⟩
  · exact ⟨(pm_q_iload h1).1, (pm_q_iload h1).2.1⟩
  · exact ⟨(pm_q_astore h1).1, (pm_q_astore h1).2.1⟩
  · exact ⟨(pm_q_astore h1).1, (pm_q_astore h1).2.1⟩
  · exact ⟨(pm_q_istore h1).1, (pm_q_istore h1).2.1⟩
  · exact ⟨(pm_q_istore h1).1, (pm_q_istore h1).2.1⟩
  · exact ⟨(pm_q_iinc h1).1, (pm_q_iinc h1).2.1⟩
  · exact ⟨(pm_q_go h1).1, (pm_q_go h1).2.1⟩
  · exact ⟨(pm_q_go h1).1, (pm_q_go h1).2.1⟩
  · exact ⟨(pm_q_go h1).1, (pm_q_go h1).2.1⟩
  · exact ⟨(pm_q_go h1).1, (pm_q_go h1).2.1⟩
  · exact ⟨(pm_q_op2 h1).1, (pm_q_op2 h1).2.1⟩
  · exact ⟨(pm_q_op2 h1).1, (pm_q_op2 h1).2.1⟩
  · exact ⟨(pm_q_op2 h1).1, (pm_q_op2 h1).2.1⟩
  · exact ⟨(pm_q_op2 h1).1, (pm_q_op2 h1).2.1⟩
  · exact ⟨(pm_q_irem h1).1, (pm_q_irem h1).2.1⟩
  · exact ⟨(pm_q_i2c h1).1, (pm_q_i2c h1).2.1⟩
  · exact ⟨(pm_q_dup h1).1, (pm_q_dup h1).2.1⟩
  · exact ⟨(pm_q_dup2 h1).1, (pm_q_dup2 h1).2.1⟩
  · exact ⟨(pm_q_go h1).1, (pm_q_go h1).2.1⟩
  · exact ⟨(pm_q_icmp h1).1, (pm_q_icmp h1).2.1⟩
  · exact ⟨(pm_q_ifc h1).1, (pm_q_ifc h1).2.1⟩
  · exact ⟨(pm_q_tsw h1).1, (pm_q_tsw h1).2.1⟩
  · exact ⟨(pm_q_getf h1).1, (pm_q_getf h1).2.1⟩
  · exact ⟨(pm_q_putf h1).1, (pm_q_putf h1).2.1⟩
  · exact ⟨(pm_q_ald h1).1, (pm_q_ald h1).2.1⟩
  · exact ⟨(pm_q_ald h1).1, (pm_q_ald h1).2.1⟩
  · exact ⟨(pm_q_ald h1).1, (pm_q_ald h1).2.1⟩
  · exact ⟨(pm_q_ast h1).1, (pm_q_ast h1).2.1⟩
  · exact ⟨(pm_q_ast h1).1, (pm_q_ast h1).2.1⟩
  · exact ⟨(pm_q_ast h1).1, (pm_q_ast h1).2.1⟩
  · exact ⟨(pm_q_aald h1).1, (pm_q_aald h1).2.1⟩
  · exact ⟨(pm_q_aast h1).1, (pm_q_aast h1).2.1⟩
  · exact ⟨(pm_q_alen h1).1, (pm_q_alen h1).2.1⟩
  · exact pm_q_newa h1
  · exact pm_q_newa h1
  · exact pm_q_newo h1
  · exact (pm_q_call h1).elim
  · split at h1
    · exact ⟨(pm_q_acopy h1).1, (pm_q_acopy h1).2.1⟩
    · split at h1
      · exact ⟨(pm_q_mm h1).1, (pm_q_mm h1).2.1⟩
      · exact (pm_q_call h1).elim
  · split at h1
    · exact ⟨(pm_q_oinit h1).1, (pm_q_oinit h1).2.1⟩
    · exact (pm_q_call h1).elim
  · exact (pm_q_iret h1).elim
  · exact (pm_q_vret h1).elim
  · cases h1

end PM
