/-! THE CLAIM OUT OF ONE WALK OF THE LAW'S BODY. Your part is whole_start (and what it stands on); all else here is the same for every law, but numbers. -/
def R_law : String := "OpticalTelegraphLaw"
def lw_P (b : Addr) (xs : List Int32) (args : Array Value) (s : State) : Prop := args = #[.ref b] ∧ s.IntsAt b xs ∧ xs.length ≤ 2048 ∧ (Jvm.Cond.and given_1 narrow_1).before args s = true
def lw_Q (_ : Array Value) (s : State) (o : Outcome) (t : State) : Prop := o = .returned (some (.int 1)) ∧ Framed s o t [] 600000 7302250
def lw_Z (below : List Frame) (a : Array Value) (s : State) : State → Prop := fun t => ∃ o, t.status = .running ∧ Ended t below o ∧ lw_Q a s o t
/-- the law's own end, with 1 on the stack, nothing written that was there before, its room as the claim has it -/
theorem lw_ret {p : Program} {l : Launch} {e : Env} {s : State} {m : MethodId} {below : List Frame} {meth : Method} {c : Code} {b : Nat} (hx : p.tables.exec = Jvm.exec) (hb : c.code = code) (hr : meth.sig.returnType = ret) (hlocks : meth.locks = false) {pc : Nat} {H : Heap} {ls : Array Slot} (hdg : decode code pc = .ok (.ireturn, 1)) : W p l e room_1 s m #[Value.ref b] below meth c H [] 600000 7302250 (lw_Z below #[Value.ref b] s) (F0 m pc ls [.int 1]) := by
  intro T hT X
  obtain ⟨fs, hret, hrun, hended, hW, hframe⟩ := X.leave (v := some (.int 1)) (hlocks := hlocks) (fun h => by rw [hr] at h; cases h)
  have hmeth' : T.vm.method? m = some meth := X.method'
  refine ⟨T.setFrames fs, ?_, .returned (some (.int 1)), hrun, hended, rfl, ⟨_, rfl⟩, hW, hframe⟩
  jvm_step X.here [X.here.top, hx, hb, hdg, hmeth', hr, ret, narrow_b1]
  (try refine ⟨rfl, ?_⟩); (try refine ⟨rfl, ?_⟩)
  first | (intro acts; rw [hret _ acts rfl rfl rfl]) | rw [hret _ _ rfl rfl rfl]
  exact Steps.refl _
/-- what holds at the law's entry: the machine, the code, the tables' words (any of lw_tbl by 'hts w (by decide +kernel)'), the script of L ints xs at the cell b, what the Statement gives of the start (any of its parts by flat_of_before) -/
def lw_At (p : Program) (s : State) (m : MethodId) (meth : Method) (c : Code) (b L : Nat) (xs : Nat → Int32) : Prop :=
  p.tables.exec = Jvm.exec ∧ c.code = code ∧ meth.sig.returnType = ret ∧ c.maxLocals = 4 ∧ s.vm.findClass R_law = some m.cls ∧ (∀ w ∈ lw_tbl, w.before #[Value.ref b] s = true) ∧ va_X b L xs s s.heap ∧ b < s.heap.size ∧ meth.locks = false ∧ (Jvm.Cond.and given_1 narrow_1).before #[Value.ref b] s = true
/-- the pure heap at the law's entry: no cell but the script -/
def pm_h0 (L : Nat) (xs : Nat → Int32) : pm_H := (0, 0, (fun a => if a = pm_scr then (11, L) else (0, 0)), (fun a => if a = pm_scr then xs else fun _ => 0), fun _ _ => none)
/-- THE PURE CLAIM -/
def pm_claim : Prop := ∀ (L : Nat) (xs : Nat → Int32), L ≤ 2048 → ∃ (f : Nat) (h' : pm_H), pm_ex f (171, 0, [.ref pm_scr, .null, .null, .null], [], pm_h0 L xs) = some (some (.int 1), h') ∧ h'.1 ≤ 600000 ∧ h'.2.1 ≤ 7302250
theorem pm_Tb.of {s : State} {args : Array Value} (h : ∀ w ∈ lw_tbl, w.before args s = true) : pm_Tb s := by
  intro w hw A
  have h0 := h w (List.mem_filter.mp hw).1
  have hk := (List.mem_filter.mp hw).2
  unfold pm_kind at hk
  split at hk
  · exact va_Nw.use rfl (va_Nw.of rfl h0)
  · exact va_Nw.use rfl (va_Nw.of rfl h0)
  · exact va_AO.use (va_AO.of h0)
  · exact word_at (State.WarmedH.refl s) (good_of_word hk) h0
theorem pm_law_b : pm_b 171 = code := rfl
theorem pm_law_own : pm_own 171 = R_law := by decide +kernel
theorem pm_law_ml : pm_ml 171 = 4 := by decide +kernel
theorem pm_law_nf : pm_nf 171 ≤ 10 := by decide +kernel
theorem pm_law_nl : pm_nl 171 ≤ 370 := by decide +kernel
theorem pm_classes {s : State} {args : Array Value} (hts : ∀ w ∈ pm_ts, w.before args s = true) : ∃ (dC : Nat → ClassId) (dI : Nat → Nat → Nat), ∀ k, k < 10 → u_Kn s (pm_C k) (pm_T k) (pm_N k) (dC k) (dI k) := by
  have h : ∀ k, ∃ g : ClassId × (Nat → Nat), k < 10 → u_Kn s (pm_C k) (pm_T k) (pm_N k) g.1 g.2 := by
    intro k
    by_cases hk : k < 10
    · have h5 := pm_f5 k hk
      rw [Bool.and_eq_true] at h5
      obtain ⟨cC, iS, hKn⟩ := u_known (C := pm_C k) (T := pm_T k) (N := pm_N k) (n := pm_N k) hts (pm_lay hk) (hts _ (pm_w_in h5.1 rfl))
      exact ⟨(cC, iS), fun _ => hKn⟩
    · exact ⟨(0, fun _ => 0), fun q => absurd q hk⟩
  obtain ⟨g, hg⟩ := Classical.axiomOfChoice h
  exact ⟨fun k => (g k).1, fun k => (g k).2, hg⟩
theorem pm_arrays {s : State} {args : Array Value} (hts : ∀ w ∈ pm_ts, w.before args s = true) : ∃ cA : Nat → ClassId, ∀ k, 10 ≤ k → k < 16 → ArrOfT s (cA k) (pm_ety k) ∧ va_RA s (cA k) (pm_ety k) := by
  have h : ∀ k, ∃ g : ClassId, 10 ≤ k → k < 16 → ArrOfT s g (pm_ety k) ∧ va_RA s g (pm_ety k) := by
    intro k
    by_cases hk : 10 ≤ k ∧ k < 16
    · by_cases hk2 : k < 13
      · have h6 := pm_f6 (k - 10) (by omega)
        rw [show 10 + (k - 10) = k by omega] at h6
        obtain ⟨cc, kk, comp, f1, f2, f3⟩ := Cond.arrayClass_spec (hts _ (pm_w_in h6 rfl))
        refine ⟨cc, fun _ _ => ⟨fun n z => ⟨fun q h => (by cases h), kk, f2, comp, f3⟩, ?_⟩⟩
        rcases (show k = 10 ∨ k = 11 ∨ k = 12 by omega) with rfl | rfl | rfl <;> exact f1
      · have h7 := pm_f7 (k - 13) (by omega)
        rw [show 13 + (k - 13) = k by omega] at h7
        obtain ⟨j1, -, -, j4⟩ := h7
        obtain ⟨comp, cc, kk, f1, f2, f3, f4, f5⟩ := Cond.arrayOver_spec (hts _ (pm_w_in j1 rfl))
        refine ⟨cc, fun _ _ => ?_⟩
        rw [j4]
        exact ⟨fun n z => ⟨fun q h => (by cases h), kk, f3, comp, f4⟩, kk, comp, f3, f4, f1, f5⟩
    · exact ⟨0, fun a b => absurd ⟨a, b⟩ hk⟩
  obtain ⟨g, hg⟩ := Classical.axiomOfChoice h
  exact ⟨g, hg⟩
set_option maxHeartbeats 4000000 in
/-- the walk of the law out of the pure claim -/
theorem pm_start (hpure : pm_claim) {p : Program} {e : Env} {s : State} {m : MethodId} {below : List Frame} {meth : Method} {c : Code} (l : Launch) {b L : Nat} {xs : Nat → Int32} (hL : L ≤ 2048) (C0 : lw_At p s m meth c b L xs) : W p l e room_1 s m #[Value.ref b] below meth c s.heap [] 0 0 (lw_Z below #[Value.ref b] s) (entryFrame m ([Value.ref b] : List Value).toArray 4) := by
  obtain ⟨hx, hb, hr, hml, hown, hts, hX, hbl, hlocks, hgv⟩ := C0
  have hTb : pm_Tb s := pm_Tb.of hts
  have hts' : ∀ w ∈ pm_ts, w.before #[Value.ref b] s = true := fun w hw => hTb w hw _
  obtain ⟨dC, dI, hC⟩ := pm_classes hts'
  obtain ⟨cA, hA⟩ := pm_arrays hts'
  have hK : va_K (dC, dI) pm_vw (pm_tys cA) s := by
    refine ⟨fun k q hq => ?_, fun k q hq => ?_⟩
    · have hk : k < 10 := by
        have := (List.getElem?_eq_some_iff.mp hq).1
        simpa [pm_vw] using this
      rw [pm_vw_at hk] at hq
      cases hq
      exact hC k hk
    · have hk : k < 6 := by
        have := (List.getElem?_eq_some_iff.mp hq).1
        simpa [pm_tys] using this
      have := pm_tys_at cA (k := 10 + k) (by omega) (by omega)
      rw [show 10 + k - 10 = k by omega, hq] at this
      cases this
      exact hA (10 + k) (by omega) (by omega)
  obtain ⟨f, h', hex, hc, hs⟩ := hpure L xs hL
  have E : pm_En 171 p room_1 s m #[Value.ref b] meth c dC dI cA := ⟨hx, hb.trans pm_law_b.symm, hml.trans pm_law_ml.symm, by rw [pm_law_own]; exact hown, Or.inl rfl, hts', hK, pm_law_nf, pm_law_nl⟩
  have hW := pm_sound l f 171 0 _ [] _ _ _ hex p e room_1 s m #[Value.ref b] below meth c (lw_Z below #[Value.ref b] s) s.heap.size b dC dI cA 0 0 E hTb (fun _ => ⟨rfl, hX, hbl⟩) (by rw [Nat.zero_add]; exact Nat.le_trans (Nat.sub_le _ _) hc) (by rw [Nat.zero_add]; exact Nat.le_trans (Nat.sub_le _ _) hs) (by
    intro pcr lsr H locs rls D hrd
    refine va_forget (fun q hq => D.2.2.1 q hq) ?_
    refine W.widen (k := 600000) (n := 7302250) (by rw [Nat.zero_add]; exact Nat.le_trans (Nat.sub_le _ _) hc) (by rw [Nat.zero_add]; exact Nat.le_trans (Nat.sub_le _ _) hs) ?_
    rcases hrd with ⟨h1, -⟩ | ⟨w, h1, h2, -⟩
    · cases h1
    · rw [pm_law_b] at h2
      exact lw_ret hx hb hr hlocks h2)
  rw [lg_entry_eq]
  have hl := pm_entry (N0 := s.heap.size) (b := b) (n := 4) (as := [.ref pm_scr]) (fun v hv => by rw [List.mem_singleton.mp hv]; rfl) (by decide)
  exact hW s.heap [] _ ⟨⟨rfl, Nat.zero_le _, fun a ha => absurd ha (Nat.not_lt_zero _)⟩, fun _ _ => rfl, (fun q hq => absurd hq List.not_mem_nil), by rw [pm_law_ml]; exact hl⟩
