/-! one step of the pure machine, one step of the real one: what needs no heap -/
/-- what stands fast while method m runs -/
def pm_En (m : Nat) (p : Program) (R : Room) (s : State) (mi : MethodId) (args : Array Value) (meth : Method) (c : Code) (dC : Nat → ClassId) (dI : Nat → Nat → Nat) (cA : Nat → ClassId) : Prop :=
  p.tables.exec = Jvm.exec ∧ c.code = pm_b m ∧ c.maxLocals = pm_ml m ∧ s.vm.findClass (pm_own m) = some mi.cls ∧ (m = pm_law ∨ meth.name = (pm_y m).name) ∧ (∀ w ∈ pm_ts, w.before args s = true) ∧ va_K (dC, dI) pm_vw (pm_tys cA) s ∧ pm_nf m ≤ R.frames ∧ pm_nl m ≤ R.locals
/-- what changes: the heap, its frame, the locals -/
def pm_Dy (N0 b : Nat) (dC : Nat → ClassId) (dI : Nat → Nat → Nat) (cA : Nat → ClassId) (m : Nat) (s : State) (h : pm_H) (H : Heap) (locs : List Loc) (rls : Array Slot) (ls : List Value) : Prop :=
  pm_Wd N0 b dC dI cA h H ∧ (∀ q, q < N0 → H[q]? = s.heap[q]?) ∧ (∀ x ∈ locs, N0 ≤ x.base) ∧ pm_Lc N0 b (pm_ml m) rls ls
/-- from every real state that shows this pure one, the machine comes to Q -/
def pm_Kt (p : Program) (l : Launch) (e : Env) (R : Room) (s : State) (mi : MethodId) (args : Array Value) (below : List Frame) (meth : Method) (c : Code) (Q : State → Prop) (N0 b : Nat) (dC : Nat → ClassId) (dI : Nat → Nat → Nat) (cA : Nat → ClassId) (m cells slots pc : Nat) (ls st : List Value) (h : pm_H) : Prop :=
  ∀ (H : Heap) (locs : List Loc) (rls : Array Slot), pm_Dy N0 b dC dI cA m s h H locs rls ls → W p l e R s mi args below meth c H locs cells slots Q (F0 mi pc rls (st.map (pm_tv N0 b)))
theorem pm_rho_lt {N0 b a n : Nat} (h1 : a < n) (h2 : n ≤ pm_scr) : pm_rho N0 b a = N0 + a := by
  unfold pm_rho
  rw [if_neg (by omega)]
section PM
variable {p : Program} {l : Launch} {e : Env} {R : Room} {s : State} {mi : MethodId} {args : Array Value} {below : List Frame} {meth : Method} {c : Code} {cells slots : Nat} {Q : State → Prop} {N0 b : Nat} {dC : Nat → ClassId} {dI : Nat → Nat → Nat} {cA : Nat → ClassId} {m pc m' pc' : Nat} {ls st ls' st' : List Value} {h h' : pm_H}

theorem pm_s_aload_n {k : Fin 4} (E : pm_En m p R s mi args meth c dC dI cA) (hd : decode (pm_b m) pc = .ok (.aload_n k, 1)) (h1 : pm_aload k.val m (pc + 1) ls st h = some (.inr (.inl (m', pc', ls', st', h')))) (K : (pm_Kt p l e R s mi args below meth c Q N0 b dC dI cA m cells slots pc' ls' st' h')) : (pm_Kt p l e R s mi args below meth c Q N0 b dC dI cA m cells slots pc ls st h) := by
  obtain ⟨hx, hb, hml, hown, hnm, hts, hK, hnf, hnl⟩ := E
  unfold pm_aload at h1
  split at h1
  · rename_i a ha
    simp only [pm_go, Option.some.injEq, Sum.inr.injEq, Sum.inl.injEq, Prod.mk.injEq] at h1; obtain ⟨rfl, rfl, rfl, rfl, rfl⟩ := h1
    intro H locs rls D
    refine lv_aload_n hx hb hd rfl ((D.2.2.2.2.2.2 _ _ ha).2 (by simp)) ?_
    exact K H locs rls D
  · cases h1
theorem pm_s_aload {k : Nat} (E : pm_En m p R s mi args meth c dC dI cA) (hd : decode (pm_b m) pc = .ok (.aload k, 2)) (h1 : pm_aload k m (pc + 2) ls st h = some (.inr (.inl (m', pc', ls', st', h')))) (K : (pm_Kt p l e R s mi args below meth c Q N0 b dC dI cA m cells slots pc' ls' st' h')) : (pm_Kt p l e R s mi args below meth c Q N0 b dC dI cA m cells slots pc ls st h) := by
  obtain ⟨hx, hb, hml, hown, hnm, hts, hK, hnf, hnl⟩ := E
  unfold pm_aload at h1
  split at h1
  · rename_i a ha
    simp only [pm_go, Option.some.injEq, Sum.inr.injEq, Sum.inl.injEq, Prod.mk.injEq] at h1; obtain ⟨rfl, rfl, rfl, rfl, rfl⟩ := h1
    intro H locs rls D
    refine lv_aload hx hb hd ((D.2.2.2.2.2.2 _ _ ha).2 (by simp)) ?_
    exact K H locs rls D
  · cases h1
theorem pm_s_iload_n {k : Fin 4} (E : pm_En m p R s mi args meth c dC dI cA) (hd : decode (pm_b m) pc = .ok (.iload_n k, 1)) (h1 : pm_iload k.val m (pc + 1) ls st h = some (.inr (.inl (m', pc', ls', st', h')))) (K : (pm_Kt p l e R s mi args below meth c Q N0 b dC dI cA m cells slots pc' ls' st' h')) : (pm_Kt p l e R s mi args below meth c Q N0 b dC dI cA m cells slots pc ls st h) := by
  obtain ⟨hx, hb, hml, hown, hnm, hts, hK, hnf, hnl⟩ := E
  unfold pm_iload at h1
  split at h1
  · rename_i a ha
    simp only [pm_go, Option.some.injEq, Sum.inr.injEq, Sum.inl.injEq, Prod.mk.injEq] at h1; obtain ⟨rfl, rfl, rfl, rfl, rfl⟩ := h1
    intro H locs rls D
    refine lv_iload_n hx hb hd rfl ((D.2.2.2.2.2.2 _ _ ha).2 (by simp)) ?_
    exact K H locs rls D
  · cases h1
theorem pm_s_iload {k : Nat} (E : pm_En m p R s mi args meth c dC dI cA) (hd : decode (pm_b m) pc = .ok (.iload k, 2)) (h1 : pm_iload k m (pc + 2) ls st h = some (.inr (.inl (m', pc', ls', st', h')))) (K : (pm_Kt p l e R s mi args below meth c Q N0 b dC dI cA m cells slots pc' ls' st' h')) : (pm_Kt p l e R s mi args below meth c Q N0 b dC dI cA m cells slots pc ls st h) := by
  obtain ⟨hx, hb, hml, hown, hnm, hts, hK, hnf, hnl⟩ := E
  unfold pm_iload at h1
  split at h1
  · rename_i a ha
    simp only [pm_go, Option.some.injEq, Sum.inr.injEq, Sum.inl.injEq, Prod.mk.injEq] at h1; obtain ⟨rfl, rfl, rfl, rfl, rfl⟩ := h1
    intro H locs rls D
    refine lv_iload hx hb hd ((D.2.2.2.2.2.2 _ _ ha).2 (by simp)) ?_
    exact K H locs rls D
  · cases h1
theorem pm_s_astore_n {k : Fin 4} (E : pm_En m p R s mi args meth c dC dI cA) (hd : decode (pm_b m) pc = .ok (.astore_n k, 1)) (h1 : pm_astore k.val m (pc + 1) ls st h = some (.inr (.inl (m', pc', ls', st', h')))) (K : (pm_Kt p l e R s mi args below meth c Q N0 b dC dI cA m cells slots pc' ls' st' h')) : (pm_Kt p l e R s mi args below meth c Q N0 b dC dI cA m cells slots pc ls st h) := by
  obtain ⟨hx, hb, hml, hown, hnm, hts, hK, hnf, hnl⟩ := E
  unfold pm_astore at h1
  split at h1
  · split at h1
    · rename_i a st hlt
      simp only [pm_go, Option.some.injEq, Sum.inr.injEq, Sum.inl.injEq, Prod.mk.injEq] at h1; obtain ⟨rfl, rfl, rfl, rfl, rfl⟩ := h1
      intro H locs rls D
      obtain ⟨D1, D2, D3, D4⟩ := D
      refine lv_astore_n hx hb hd rfl D4.has (by rw [← D4.2.2.1]; exact hlt) rfl (fun rls' hl' => ?_)
      exact K H locs rls' ⟨D1, D2, D3, D4.store rfl hl'⟩
    · cases h1
  · cases h1
theorem pm_s_astore {k : Nat} (E : pm_En m p R s mi args meth c dC dI cA) (hd : decode (pm_b m) pc = .ok (.astore k, 2)) (h1 : pm_astore k m (pc + 2) ls st h = some (.inr (.inl (m', pc', ls', st', h')))) (K : (pm_Kt p l e R s mi args below meth c Q N0 b dC dI cA m cells slots pc' ls' st' h')) : (pm_Kt p l e R s mi args below meth c Q N0 b dC dI cA m cells slots pc ls st h) := by
  obtain ⟨hx, hb, hml, hown, hnm, hts, hK, hnf, hnl⟩ := E
  unfold pm_astore at h1
  split at h1
  · split at h1
    · rename_i a st hlt
      simp only [pm_go, Option.some.injEq, Sum.inr.injEq, Sum.inl.injEq, Prod.mk.injEq] at h1; obtain ⟨rfl, rfl, rfl, rfl, rfl⟩ := h1
      intro H locs rls D
      obtain ⟨D1, D2, D3, D4⟩ := D
      refine lv_astore hx hb hd D4.has (by rw [← D4.2.2.1]; exact hlt) rfl (fun rls' hl' => ?_)
      exact K H locs rls' ⟨D1, D2, D3, D4.store rfl hl'⟩
    · cases h1
  · cases h1
theorem pm_s_istore_n {k : Fin 4} (E : pm_En m p R s mi args meth c dC dI cA) (hd : decode (pm_b m) pc = .ok (.istore_n k, 1)) (h1 : pm_istore k.val m (pc + 1) ls st h = some (.inr (.inl (m', pc', ls', st', h')))) (K : (pm_Kt p l e R s mi args below meth c Q N0 b dC dI cA m cells slots pc' ls' st' h')) : (pm_Kt p l e R s mi args below meth c Q N0 b dC dI cA m cells slots pc ls st h) := by
  obtain ⟨hx, hb, hml, hown, hnm, hts, hK, hnf, hnl⟩ := E
  unfold pm_istore at h1
  split at h1
  · split at h1
    · rename_i a st hlt
      simp only [pm_go, Option.some.injEq, Sum.inr.injEq, Sum.inl.injEq, Prod.mk.injEq] at h1; obtain ⟨rfl, rfl, rfl, rfl, rfl⟩ := h1
      intro H locs rls D
      obtain ⟨D1, D2, D3, D4⟩ := D
      refine lv_istore_n hx hb hd rfl D4.has (by rw [← D4.2.2.1]; exact hlt) rfl (fun rls' hl' => ?_)
      exact K H locs rls' ⟨D1, D2, D3, D4.store rfl hl'⟩
    · cases h1
  · cases h1
theorem pm_s_istore {k : Nat} (E : pm_En m p R s mi args meth c dC dI cA) (hd : decode (pm_b m) pc = .ok (.istore k, 2)) (h1 : pm_istore k m (pc + 2) ls st h = some (.inr (.inl (m', pc', ls', st', h')))) (K : (pm_Kt p l e R s mi args below meth c Q N0 b dC dI cA m cells slots pc' ls' st' h')) : (pm_Kt p l e R s mi args below meth c Q N0 b dC dI cA m cells slots pc ls st h) := by
  obtain ⟨hx, hb, hml, hown, hnm, hts, hK, hnf, hnl⟩ := E
  unfold pm_istore at h1
  split at h1
  · split at h1
    · rename_i a st hlt
      simp only [pm_go, Option.some.injEq, Sum.inr.injEq, Sum.inl.injEq, Prod.mk.injEq] at h1; obtain ⟨rfl, rfl, rfl, rfl, rfl⟩ := h1
      intro H locs rls D
      obtain ⟨D1, D2, D3, D4⟩ := D
      refine lv_istore hx hb hd D4.has (by rw [← D4.2.2.1]; exact hlt) rfl (fun rls' hl' => ?_)
      exact K H locs rls' ⟨D1, D2, D3, D4.store rfl hl'⟩
    · cases h1
  · cases h1
theorem pm_s_iinc {k : Nat} {n : Int} (E : pm_En m p R s mi args meth c dC dI cA) (hd : decode (pm_b m) pc = .ok (.iinc k n, 3)) (h1 : pm_iinc k n m (pc + 3) ls st h = some (.inr (.inl (m', pc', ls', st', h')))) (K : (pm_Kt p l e R s mi args below meth c Q N0 b dC dI cA m cells slots pc' ls' st' h')) : (pm_Kt p l e R s mi args below meth c Q N0 b dC dI cA m cells slots pc ls st h) := by
  obtain ⟨hx, hb, hml, hown, hnm, hts, hK, hnf, hnl⟩ := E
  unfold pm_iinc at h1
  split at h1
  · rename_i a ha
    split at h1
    · rename_i hlt
      simp only [pm_go, Option.some.injEq, Sum.inr.injEq, Sum.inl.injEq, Prod.mk.injEq] at h1; obtain ⟨rfl, rfl, rfl, rfl, rfl⟩ := h1
      intro H locs rls D
      obtain ⟨D1, D2, D3, D4⟩ := D
      have h0 : lv_has rls (pm_ml m) ((k, Value.int a) :: pm_lv N0 b ls) := ⟨D4.has.1, D4.has.2.1, fun q hq => by
        rcases List.mem_cons.mp hq with rfl | hq
        · exact (D4.2.2.2 _ _ ha).2 (by simp)
        · exact D4.has.2.2 q hq⟩
      refine lv_iinc (k := 0) hx hb hd h0 rfl rfl (by rw [← D4.2.2.1]; exact hlt) rfl (fun rls' hl' => ?_)
      refine K H locs rls' ⟨D1, D2, D3, D4.store (v := .int (a + Int32.ofInt n)) rfl ?_⟩
      rw [List.filter_cons_of_neg (by simp)] at hl'
      exact hl'
    · cases h1
  · cases h1
theorem pm_s_iconst {n : Int} (E : pm_En m p R s mi args meth c dC dI cA) (hd : decode (pm_b m) pc = .ok (.iconst n, 1)) (h1 : pm_go m (pc + 1) ls (.int (Int32.ofInt n) :: st) h = some (.inr (.inl (m', pc', ls', st', h')))) (K : (pm_Kt p l e R s mi args below meth c Q N0 b dC dI cA m cells slots pc' ls' st' h')) : (pm_Kt p l e R s mi args below meth c Q N0 b dC dI cA m cells slots pc ls st h) := by
  obtain ⟨hx, hb, hml, hown, hnm, hts, hK, hnf, hnl⟩ := E
  simp only [pm_go, Option.some.injEq, Sum.inr.injEq, Sum.inl.injEq, Prod.mk.injEq] at h1; obtain ⟨rfl, rfl, rfl, rfl, rfl⟩ := h1
  intro H locs rls D
  exact lv_iconst hx hb hd rfl (K H locs rls D)
theorem pm_s_bipush {n : Int} (E : pm_En m p R s mi args meth c dC dI cA) (hd : decode (pm_b m) pc = .ok (.bipush n, 2)) (h1 : pm_go m (pc + 2) ls (.int ((Int8.ofInt n).toInt32) :: st) h = some (.inr (.inl (m', pc', ls', st', h')))) (K : (pm_Kt p l e R s mi args below meth c Q N0 b dC dI cA m cells slots pc' ls' st' h')) : (pm_Kt p l e R s mi args below meth c Q N0 b dC dI cA m cells slots pc ls st h) := by
  obtain ⟨hx, hb, hml, hown, hnm, hts, hK, hnf, hnl⟩ := E
  simp only [pm_go, Option.some.injEq, Sum.inr.injEq, Sum.inl.injEq, Prod.mk.injEq] at h1; obtain ⟨rfl, rfl, rfl, rfl, rfl⟩ := h1
  intro H locs rls D
  exact lv_bipush hx hb hd rfl (K H locs rls D)
theorem pm_s_sipush {n : Int} (E : pm_En m p R s mi args meth c dC dI cA) (hd : decode (pm_b m) pc = .ok (.sipush n, 3)) (h1 : pm_go m (pc + 3) ls (.int ((Int16.ofInt n).toInt32) :: st) h = some (.inr (.inl (m', pc', ls', st', h')))) (K : (pm_Kt p l e R s mi args below meth c Q N0 b dC dI cA m cells slots pc' ls' st' h')) : (pm_Kt p l e R s mi args below meth c Q N0 b dC dI cA m cells slots pc ls st h) := by
  obtain ⟨hx, hb, hml, hown, hnm, hts, hK, hnf, hnl⟩ := E
  simp only [pm_go, Option.some.injEq, Sum.inr.injEq, Sum.inl.injEq, Prod.mk.injEq] at h1; obtain ⟨rfl, rfl, rfl, rfl, rfl⟩ := h1
  intro H locs rls D
  exact lv_sipush hx hb hd rfl (K H locs rls D)
theorem pm_s_ldc {idx x w : Nat} (E : pm_En m p R s mi args meth c dC dI cA) (hd : decode (pm_b m) pc = .ok (.ldc idx, 2)) (hw : pm_w w (.constant (pm_own m) idx (Int32.ofNat x)) = true) (h1 : pm_go m (pc + 2) ls (.int (Int32.ofNat x) :: st) h = some (.inr (.inl (m', pc', ls', st', h')))) (K : (pm_Kt p l e R s mi args below meth c Q N0 b dC dI cA m cells slots pc' ls' st' h')) : (pm_Kt p l e R s mi args below meth c Q N0 b dC dI cA m cells slots pc ls st h) := by
  obtain ⟨hx, hb, hml, hown, hnm, hts, hK, hnf, hnl⟩ := E
  simp only [pm_go, Option.some.injEq, Sum.inr.injEq, Sum.inl.injEq, Prod.mk.injEq] at h1; obtain ⟨rfl, rfl, rfl, rfl, rfl⟩ := h1
  intro H locs rls D
  exact lv_ldc hx hb hown (hts _ (pm_w_in hw rfl)) hd (K H locs rls D)
theorem pm_s_iadd (E : pm_En m p R s mi args meth c dC dI cA) (hd : decode (pm_b m) pc = .ok (.iadd, 1)) (h1 : pm_op2 (· + ·) m (pc + 1) ls st h = some (.inr (.inl (m', pc', ls', st', h')))) (K : (pm_Kt p l e R s mi args below meth c Q N0 b dC dI cA m cells slots pc' ls' st' h')) : (pm_Kt p l e R s mi args below meth c Q N0 b dC dI cA m cells slots pc ls st h) := by
  obtain ⟨hx, hb, hml, hown, hnm, hts, hK, hnf, hnl⟩ := E
  unfold pm_op2 at h1
  split at h1
  · simp only [pm_go, Option.some.injEq, Sum.inr.injEq, Sum.inl.injEq, Prod.mk.injEq] at h1; obtain ⟨rfl, rfl, rfl, rfl, rfl⟩ := h1
    intro H locs rls D
    exact lv_iadd hx hb hd (K H locs rls D)
  · cases h1
theorem pm_s_isub (E : pm_En m p R s mi args meth c dC dI cA) (hd : decode (pm_b m) pc = .ok (.isub, 1)) (h1 : pm_op2 (· - ·) m (pc + 1) ls st h = some (.inr (.inl (m', pc', ls', st', h')))) (K : (pm_Kt p l e R s mi args below meth c Q N0 b dC dI cA m cells slots pc' ls' st' h')) : (pm_Kt p l e R s mi args below meth c Q N0 b dC dI cA m cells slots pc ls st h) := by
  obtain ⟨hx, hb, hml, hown, hnm, hts, hK, hnf, hnl⟩ := E
  unfold pm_op2 at h1
  split at h1
  · simp only [pm_go, Option.some.injEq, Sum.inr.injEq, Sum.inl.injEq, Prod.mk.injEq] at h1; obtain ⟨rfl, rfl, rfl, rfl, rfl⟩ := h1
    intro H locs rls D
    exact lv_isub hx hb hd (K H locs rls D)
  · cases h1
theorem pm_s_imul (E : pm_En m p R s mi args meth c dC dI cA) (hd : decode (pm_b m) pc = .ok (.imul, 1)) (h1 : pm_op2 (· * ·) m (pc + 1) ls st h = some (.inr (.inl (m', pc', ls', st', h')))) (K : (pm_Kt p l e R s mi args below meth c Q N0 b dC dI cA m cells slots pc' ls' st' h')) : (pm_Kt p l e R s mi args below meth c Q N0 b dC dI cA m cells slots pc ls st h) := by
  obtain ⟨hx, hb, hml, hown, hnm, hts, hK, hnf, hnl⟩ := E
  unfold pm_op2 at h1
  split at h1
  · simp only [pm_go, Option.some.injEq, Sum.inr.injEq, Sum.inl.injEq, Prod.mk.injEq] at h1; obtain ⟨rfl, rfl, rfl, rfl, rfl⟩ := h1
    intro H locs rls D
    exact lv_imul hx hb hd (K H locs rls D)
  · cases h1
theorem pm_s_iand (E : pm_En m p R s mi args meth c dC dI cA) (hd : decode (pm_b m) pc = .ok (.iand, 1)) (h1 : pm_op2 (· &&& ·) m (pc + 1) ls st h = some (.inr (.inl (m', pc', ls', st', h')))) (K : (pm_Kt p l e R s mi args below meth c Q N0 b dC dI cA m cells slots pc' ls' st' h')) : (pm_Kt p l e R s mi args below meth c Q N0 b dC dI cA m cells slots pc ls st h) := by
  obtain ⟨hx, hb, hml, hown, hnm, hts, hK, hnf, hnl⟩ := E
  unfold pm_op2 at h1
  split at h1
  · simp only [pm_go, Option.some.injEq, Sum.inr.injEq, Sum.inl.injEq, Prod.mk.injEq] at h1; obtain ⟨rfl, rfl, rfl, rfl, rfl⟩ := h1
    intro H locs rls D
    exact lv_iand hx hb hd (K H locs rls D)
  · cases h1
theorem pm_s_irem (E : pm_En m p R s mi args meth c dC dI cA) (hd : decode (pm_b m) pc = .ok (.irem, 1)) (h1 : pm_irem m (pc + 1) ls st h = some (.inr (.inl (m', pc', ls', st', h')))) (K : (pm_Kt p l e R s mi args below meth c Q N0 b dC dI cA m cells slots pc' ls' st' h')) : (pm_Kt p l e R s mi args below meth c Q N0 b dC dI cA m cells slots pc ls st h) := by
  obtain ⟨hx, hb, hml, hown, hnm, hts, hK, hnf, hnl⟩ := E
  unfold pm_irem at h1
  split at h1
  · split at h1
    · cases h1
    · rename_i hne
      simp only [pm_go, Option.some.injEq, Sum.inr.injEq, Sum.inl.injEq, Prod.mk.injEq] at h1; obtain ⟨rfl, rfl, rfl, rfl, rfl⟩ := h1
      intro H locs rls D
      exact lv_irem hx hb hd hne (K H locs rls D)
  · cases h1
theorem pm_s_i2c (E : pm_En m p R s mi args meth c dC dI cA) (hd : decode (pm_b m) pc = .ok (.i2c, 1)) (h1 : pm_i2c m (pc + 1) ls st h = some (.inr (.inl (m', pc', ls', st', h')))) (K : (pm_Kt p l e R s mi args below meth c Q N0 b dC dI cA m cells slots pc' ls' st' h')) : (pm_Kt p l e R s mi args below meth c Q N0 b dC dI cA m cells slots pc ls st h) := by
  obtain ⟨hx, hb, hml, hown, hnm, hts, hK, hnf, hnl⟩ := E
  unfold pm_i2c at h1
  split at h1
  · simp only [pm_go, Option.some.injEq, Sum.inr.injEq, Sum.inl.injEq, Prod.mk.injEq] at h1; obtain ⟨rfl, rfl, rfl, rfl, rfl⟩ := h1
    intro H locs rls D
    exact lv_i2c hx hb hd rfl (K H locs rls D)
  · cases h1
theorem pm_s_dup (E : pm_En m p R s mi args meth c dC dI cA) (hd : decode (pm_b m) pc = .ok (.dup, 1)) (h1 : pm_dup m (pc + 1) ls st h = some (.inr (.inl (m', pc', ls', st', h')))) (K : (pm_Kt p l e R s mi args below meth c Q N0 b dC dI cA m cells slots pc' ls' st' h')) : (pm_Kt p l e R s mi args below meth c Q N0 b dC dI cA m cells slots pc ls st h) := by
  obtain ⟨hx, hb, hml, hown, hnm, hts, hK, hnf, hnl⟩ := E
  unfold pm_dup at h1
  split at h1
  · simp only [pm_go, Option.some.injEq, Sum.inr.injEq, Sum.inl.injEq, Prod.mk.injEq] at h1; obtain ⟨rfl, rfl, rfl, rfl, rfl⟩ := h1
    intro H locs rls D
    exact lv_dup hx hb hd rfl (K H locs rls D)
  · simp only [pm_go, Option.some.injEq, Sum.inr.injEq, Sum.inl.injEq, Prod.mk.injEq] at h1; obtain ⟨rfl, rfl, rfl, rfl, rfl⟩ := h1
    intro H locs rls D
    exact lv_dup hx hb hd rfl (K H locs rls D)
  · cases h1
theorem pm_s_dup2 (E : pm_En m p R s mi args meth c dC dI cA) (hd : decode (pm_b m) pc = .ok (.dup2, 1)) (h1 : pm_dup2 m (pc + 1) ls st h = some (.inr (.inl (m', pc', ls', st', h')))) (K : (pm_Kt p l e R s mi args below meth c Q N0 b dC dI cA m cells slots pc' ls' st' h')) : (pm_Kt p l e R s mi args below meth c Q N0 b dC dI cA m cells slots pc ls st h) := by
  obtain ⟨hx, hb, hml, hown, hnm, hts, hK, hnf, hnl⟩ := E
  unfold pm_dup2 at h1
  split at h1
  · simp only [pm_go, Option.some.injEq, Sum.inr.injEq, Sum.inl.injEq, Prod.mk.injEq] at h1; obtain ⟨rfl, rfl, rfl, rfl, rfl⟩ := h1
    intro H locs rls D
    exact lv_dup2_11 hx hb hd rfl rfl (K H locs rls D)
  · cases h1
theorem pm_s_goto {off : Int} {tg : Nat} (E : pm_En m p R s mi args meth c dC dI cA) (hd : decode (pm_b m) pc = .ok (.goto off, 3)) (ht : (pc : Int) + off = (tg : Int)) (h1 : pm_go m tg ls st h = some (.inr (.inl (m', pc', ls', st', h')))) (K : (pm_Kt p l e R s mi args below meth c Q N0 b dC dI cA m cells slots pc' ls' st' h')) : (pm_Kt p l e R s mi args below meth c Q N0 b dC dI cA m cells slots pc ls st h) := by
  obtain ⟨hx, hb, hml, hown, hnm, hts, hK, hnf, hnl⟩ := E
  simp only [pm_go, Option.some.injEq, Sum.inr.injEq, Sum.inl.injEq, Prod.mk.injEq] at h1; obtain ⟨rfl, rfl, rfl, rfl, rfl⟩ := h1
  intro H locs rls D
  exact lv_goto hx hb hd ht (K H locs rls D)
theorem pm_s_icmp {cnd : ClassFile.Cond} {off : Int} {tg : Nat} (E : pm_En m p R s mi args meth c dC dI cA) (hd : decode (pm_b m) pc = .ok (.if_icmp cnd off, 3)) (ht : (pc : Int) + off = (tg : Int)) (h1 : pm_icmp cnd m tg (pc + 3) ls st h = some (.inr (.inl (m', pc', ls', st', h')))) (K : (pm_Kt p l e R s mi args below meth c Q N0 b dC dI cA m cells slots pc' ls' st' h')) : (pm_Kt p l e R s mi args below meth c Q N0 b dC dI cA m cells slots pc ls st h) := by
  obtain ⟨hx, hb, hml, hown, hnm, hts, hK, hnf, hnl⟩ := E
  unfold pm_icmp at h1
  split at h1
  · rename_i y x st
    unfold pm_cmp at h1
    cases cnd with
    | eq =>
      by_cases hxy : x = y
      · simp only [if_pos hxy] at h1
        simp only [pm_go, Option.some.injEq, Sum.inr.injEq, Sum.inl.injEq, Prod.mk.injEq] at h1; obtain ⟨rfl, rfl, rfl, rfl, rfl⟩ := h1
        intro H locs rls D
        exact lv_icmp_eq hx hb hd ht (fun _ => K H locs rls D) (fun hn => absurd hxy hn)
      · simp only [if_neg hxy] at h1
        simp only [pm_go, Option.some.injEq, Sum.inr.injEq, Sum.inl.injEq, Prod.mk.injEq] at h1; obtain ⟨rfl, rfl, rfl, rfl, rfl⟩ := h1
        intro H locs rls D
        exact lv_icmp_eq hx hb hd ht (fun hn => absurd hn hxy) (fun _ => K H locs rls D)
    | ne =>
      by_cases hxy : x = y
      · simp only [if_pos hxy] at h1
        simp only [pm_go, Option.some.injEq, Sum.inr.injEq, Sum.inl.injEq, Prod.mk.injEq] at h1; obtain ⟨rfl, rfl, rfl, rfl, rfl⟩ := h1
        intro H locs rls D
        exact lv_icmp_ne hx hb hd ht (fun hn => absurd hxy hn) (fun _ => K H locs rls D)
      · simp only [if_neg hxy] at h1
        simp only [pm_go, Option.some.injEq, Sum.inr.injEq, Sum.inl.injEq, Prod.mk.injEq] at h1; obtain ⟨rfl, rfl, rfl, rfl, rfl⟩ := h1
        intro H locs rls D
        exact lv_icmp_ne hx hb hd ht (fun _ => K H locs rls D) (fun hn => absurd hn hxy)
    | lt =>
      by_cases hxy : x < y
      · simp only [if_pos hxy] at h1
        simp only [pm_go, Option.some.injEq, Sum.inr.injEq, Sum.inl.injEq, Prod.mk.injEq] at h1; obtain ⟨rfl, rfl, rfl, rfl, rfl⟩ := h1
        intro H locs rls D
        exact lv_icmp_lt hx hb hd ht (fun _ => K H locs rls D) (fun hn => absurd hxy hn)
      · simp only [if_neg hxy] at h1
        simp only [pm_go, Option.some.injEq, Sum.inr.injEq, Sum.inl.injEq, Prod.mk.injEq] at h1; obtain ⟨rfl, rfl, rfl, rfl, rfl⟩ := h1
        intro H locs rls D
        exact lv_icmp_lt hx hb hd ht (fun hn => absurd hn hxy) (fun _ => K H locs rls D)
    | ge =>
      by_cases hxy : x < y
      · simp only [if_pos hxy] at h1
        simp only [pm_go, Option.some.injEq, Sum.inr.injEq, Sum.inl.injEq, Prod.mk.injEq] at h1; obtain ⟨rfl, rfl, rfl, rfl, rfl⟩ := h1
        intro H locs rls D
        exact lv_icmp_ge hx hb hd ht (fun hn => absurd hxy (Int32.not_lt.mpr hn)) (fun _ => K H locs rls D)
      · simp only [if_neg hxy] at h1
        simp only [pm_go, Option.some.injEq, Sum.inr.injEq, Sum.inl.injEq, Prod.mk.injEq] at h1; obtain ⟨rfl, rfl, rfl, rfl, rfl⟩ := h1
        intro H locs rls D
        exact lv_icmp_ge hx hb hd ht (fun _ => K H locs rls D) (fun hn => absurd (Int32.not_lt.mp hxy) hn)
    | gt =>
      by_cases hxy : y < x
      · simp only [if_pos hxy] at h1
        simp only [pm_go, Option.some.injEq, Sum.inr.injEq, Sum.inl.injEq, Prod.mk.injEq] at h1; obtain ⟨rfl, rfl, rfl, rfl, rfl⟩ := h1
        intro H locs rls D
        exact lv_icmp_gt hx hb hd ht (fun _ => K H locs rls D) (fun hn => absurd hxy hn)
      · simp only [if_neg hxy] at h1
        simp only [pm_go, Option.some.injEq, Sum.inr.injEq, Sum.inl.injEq, Prod.mk.injEq] at h1; obtain ⟨rfl, rfl, rfl, rfl, rfl⟩ := h1
        intro H locs rls D
        exact lv_icmp_gt hx hb hd ht (fun hn => absurd hn hxy) (fun _ => K H locs rls D)
    | le =>
      by_cases hxy : y < x
      · simp only [if_pos hxy] at h1
        simp only [pm_go, Option.some.injEq, Sum.inr.injEq, Sum.inl.injEq, Prod.mk.injEq] at h1; obtain ⟨rfl, rfl, rfl, rfl, rfl⟩ := h1
        intro H locs rls D
        exact lv_icmp_le hx hb hd ht (fun hn => absurd hxy (Int32.not_lt.mpr hn)) (fun _ => K H locs rls D)
      · simp only [if_neg hxy] at h1
        simp only [pm_go, Option.some.injEq, Sum.inr.injEq, Sum.inl.injEq, Prod.mk.injEq] at h1; obtain ⟨rfl, rfl, rfl, rfl, rfl⟩ := h1
        intro H locs rls D
        exact lv_icmp_le hx hb hd ht (fun _ => K H locs rls D) (fun hn => absurd (Int32.not_lt.mp hxy) hn)
  · cases h1
theorem pm_s_ifc {cnd : ClassFile.Cond} {off : Int} {tg : Nat} (E : pm_En m p R s mi args meth c dC dI cA) (hd : decode (pm_b m) pc = .ok (.ifCond cnd off, 3)) (ht : (pc : Int) + off = (tg : Int)) (h1 : pm_ifc cnd m tg (pc + 3) ls st h = some (.inr (.inl (m', pc', ls', st', h')))) (K : (pm_Kt p l e R s mi args below meth c Q N0 b dC dI cA m cells slots pc' ls' st' h')) : (pm_Kt p l e R s mi args below meth c Q N0 b dC dI cA m cells slots pc ls st h) := by
  obtain ⟨hx, hb, hml, hown, hnm, hts, hK, hnf, hnl⟩ := E
  unfold pm_ifc at h1
  split at h1
  · rename_i x st
    unfold pm_cmp at h1
    cases cnd with
    | eq =>
      by_cases hxy : x = 0
      · simp only [if_pos hxy] at h1
        simp only [pm_go, Option.some.injEq, Sum.inr.injEq, Sum.inl.injEq, Prod.mk.injEq] at h1; obtain ⟨rfl, rfl, rfl, rfl, rfl⟩ := h1
        intro H locs rls D
        exact lv_if_eq hx hb hd ht (fun _ => K H locs rls D) (fun hn => absurd hxy hn)
      · simp only [if_neg hxy] at h1
        simp only [pm_go, Option.some.injEq, Sum.inr.injEq, Sum.inl.injEq, Prod.mk.injEq] at h1; obtain ⟨rfl, rfl, rfl, rfl, rfl⟩ := h1
        intro H locs rls D
        exact lv_if_eq hx hb hd ht (fun hn => absurd hn hxy) (fun _ => K H locs rls D)
    | ne =>
      by_cases hxy : x = 0
      · simp only [if_pos hxy] at h1
        simp only [pm_go, Option.some.injEq, Sum.inr.injEq, Sum.inl.injEq, Prod.mk.injEq] at h1; obtain ⟨rfl, rfl, rfl, rfl, rfl⟩ := h1
        intro H locs rls D
        exact lv_if_ne hx hb hd ht (fun hn => absurd hxy hn) (fun _ => K H locs rls D)
      · simp only [if_neg hxy] at h1
        simp only [pm_go, Option.some.injEq, Sum.inr.injEq, Sum.inl.injEq, Prod.mk.injEq] at h1; obtain ⟨rfl, rfl, rfl, rfl, rfl⟩ := h1
        intro H locs rls D
        exact lv_if_ne hx hb hd ht (fun _ => K H locs rls D) (fun hn => absurd hn hxy)
    | lt =>
      by_cases hxy : x < 0
      · simp only [if_pos hxy] at h1
        simp only [pm_go, Option.some.injEq, Sum.inr.injEq, Sum.inl.injEq, Prod.mk.injEq] at h1; obtain ⟨rfl, rfl, rfl, rfl, rfl⟩ := h1
        intro H locs rls D
        exact lv_if_lt hx hb hd ht (fun _ => K H locs rls D) (fun hn => absurd hxy hn)
      · simp only [if_neg hxy] at h1
        simp only [pm_go, Option.some.injEq, Sum.inr.injEq, Sum.inl.injEq, Prod.mk.injEq] at h1; obtain ⟨rfl, rfl, rfl, rfl, rfl⟩ := h1
        intro H locs rls D
        exact lv_if_lt hx hb hd ht (fun hn => absurd hn hxy) (fun _ => K H locs rls D)
    | ge =>
      by_cases hxy : x < 0
      · simp only [if_pos hxy] at h1
        simp only [pm_go, Option.some.injEq, Sum.inr.injEq, Sum.inl.injEq, Prod.mk.injEq] at h1; obtain ⟨rfl, rfl, rfl, rfl, rfl⟩ := h1
        intro H locs rls D
        exact lv_if_ge hx hb hd ht (fun hn => absurd hxy (Int32.not_lt.mpr hn)) (fun _ => K H locs rls D)
      · simp only [if_neg hxy] at h1
        simp only [pm_go, Option.some.injEq, Sum.inr.injEq, Sum.inl.injEq, Prod.mk.injEq] at h1; obtain ⟨rfl, rfl, rfl, rfl, rfl⟩ := h1
        intro H locs rls D
        exact lv_if_ge hx hb hd ht (fun _ => K H locs rls D) (fun hn => absurd (Int32.not_lt.mp hxy) hn)
    | gt =>
      by_cases hxy : 0 < x
      · simp only [if_pos hxy] at h1
        simp only [pm_go, Option.some.injEq, Sum.inr.injEq, Sum.inl.injEq, Prod.mk.injEq] at h1; obtain ⟨rfl, rfl, rfl, rfl, rfl⟩ := h1
        intro H locs rls D
        exact lv_if_gt hx hb hd ht (fun _ => K H locs rls D) (fun hn => absurd hxy hn)
      · simp only [if_neg hxy] at h1
        simp only [pm_go, Option.some.injEq, Sum.inr.injEq, Sum.inl.injEq, Prod.mk.injEq] at h1; obtain ⟨rfl, rfl, rfl, rfl, rfl⟩ := h1
        intro H locs rls D
        exact lv_if_gt hx hb hd ht (fun hn => absurd hn hxy) (fun _ => K H locs rls D)
    | le =>
      by_cases hxy : 0 < x
      · simp only [if_pos hxy] at h1
        simp only [pm_go, Option.some.injEq, Sum.inr.injEq, Sum.inl.injEq, Prod.mk.injEq] at h1; obtain ⟨rfl, rfl, rfl, rfl, rfl⟩ := h1
        intro H locs rls D
        exact lv_if_le hx hb hd ht (fun hn => absurd hxy (Int32.not_lt.mpr hn)) (fun _ => K H locs rls D)
      · simp only [if_neg hxy] at h1
        simp only [pm_go, Option.some.injEq, Sum.inr.injEq, Sum.inl.injEq, Prod.mk.injEq] at h1; obtain ⟨rfl, rfl, rfl, rfl, rfl⟩ := h1
        intro H locs rls D
        exact lv_if_le hx hb hd ht (fun _ => K H locs rls D) (fun hn => absurd (Int32.not_lt.mp hxy) hn)
  · cases h1
theorem pm_s_tsw {dflt lo hi : Int} {offs : Array Int} {len : Nat} (E : pm_En m p R s mi args meth c dC dI cA) (hd : decode (pm_b m) pc = .ok (.tableswitch dflt lo hi offs, len)) (ht : 0 ≤ (pc : Int) + dflt) (ho : ∀ o ∈ offs, 0 ≤ (pc : Int) + o) (h1 : pm_tsw dflt lo hi offs m pc ls st h = some (.inr (.inl (m', pc', ls', st', h')))) (K : (pm_Kt p l e R s mi args below meth c Q N0 b dC dI cA m cells slots pc' ls' st' h')) : (pm_Kt p l e R s mi args below meth c Q N0 b dC dI cA m cells slots pc ls st h) := by
  obtain ⟨hx, hb, hml, hown, hnm, hts, hK, hnf, hnl⟩ := E
  unfold pm_tsw at h1
  split at h1
  · split at h1
    · rename_i hout
      simp only [pm_go, Option.some.injEq, Sum.inr.injEq, Sum.inl.injEq, Prod.mk.injEq] at h1; obtain ⟨rfl, rfl, rfl, rfl, rfl⟩ := h1
      intro H locs rls D
      exact lv_tableOut hx hb hd hout (Int.toNat_of_nonneg ht).symm (K H locs rls D)
    · rename_i hin
      split at h1
      · rename_i off hoff
        simp only [pm_go, Option.some.injEq, Sum.inr.injEq, Sum.inl.injEq, Prod.mk.injEq] at h1; obtain ⟨rfl, rfl, rfl, rfl, rfl⟩ := h1
        intro H locs rls D
        exact lv_tableIn hx hb hd (fun q => hin (Or.inl q)) (fun q => hin (Or.inr q)) hoff (Int.toNat_of_nonneg (ho _ (Array.mem_of_getElem? hoff))).symm (K H locs rls D)
      · cases h1
  · cases h1
end PM
