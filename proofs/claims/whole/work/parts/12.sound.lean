/-! the whole run of the pure machine is a run of the real one -/
def pm_Rd (m pc : Nat) (r : Option Value) : Prop := (r = none ∧ pm_ret m = none ∧ decode (pm_b m) pc = .ok (.return_, 1)) ∨ ∃ v, r = some (.int v) ∧ decode (pm_b m) pc = .ok (.ireturn, 1) ∧ (pm_ret m = some .int ∨ (pm_ret m = some .boolean ∧ (v = 0 ∨ v = 1)))
/-- the answer r over the pure heap h' leads to Q -/
def pm_Rt (p : Program) (l : Launch) (e : Env) (R : Room) (s : State) (mi : MethodId) (args : Array Value) (below : List Frame) (meth : Method) (c : Code) (Q : State → Prop) (N0 b : Nat) (dC : Nat → ClassId) (dI : Nat → Nat → Nat) (cA : Nat → ClassId) (m cells slots : Nat) (r : Option Value) (h' : pm_H) : Prop :=
  ∀ (pc : Nat) (ls : List Value) (H : Heap) (locs : List Loc) (rls : Array Slot), pm_Dy N0 b dC dI cA m s h' H locs rls ls → pm_Rd m pc r → W p l e R s mi args below meth c H locs cells slots Q (F0 mi pc rls (r.toList.map (pm_tv N0 b)))
def pm_P (l : Launch) (f : Nat) : Prop := ∀ (m pc : Nat) (ls st : List Value) (h : pm_H) (r : Option Value) (h' : pm_H), pm_ex f (m, pc, ls, st, h) = some (r, h') → ∀ (p : Program) (e : Env) (R : Room) (s : State) (mi : MethodId) (args : Array Value) (below : List Frame) (meth : Method) (c : Code) (Q : State → Prop) (N0 b : Nat) (dC : Nat → ClassId) (dI : Nat → Nat → Nat) (cA : Nat → ClassId) (cells slots : Nat), pm_En m p R s mi args meth c dC dI cA → pm_Tb s → pm_Sc N0 b m s h → cells + (h'.1 - h.1) ≤ R.cells → slots + (h'.2.1 - h.2.1) ≤ R.slots → pm_Rt p l e R s mi args below meth c Q N0 b dC dI cA m (cells + (h'.1 - h.1)) (slots + (h'.2.1 - h.2.1)) r h' → (pm_Kt p l e R s mi args below meth c Q N0 b dC dI cA m cells slots pc ls st h)
theorem pm_met {l : Launch} {f : Nat} (IH : pm_P l f) {N0 b : Nat} {dC : Nat → ClassId} {dI : Nat → Nat → Nat} {cA : Nat → ClassId} {x : Nat} {as : List Value} {h h1 : pm_H} {v : Option Value} (hx : x ≠ pm_law) (has : ∀ v ∈ as, v.category = 1) (hlen : as.length ≤ pm_ml x) (hpl : plainName (pm_y x).cls = true)
    (hex : pm_ex f (x, 0, as ++ List.replicate (pm_ml x - as.length) Value.null, [], h) = some (v, h1)) : pm_Mt l N0 b dC dI cA x as h v h1 := by
  refine Met.ofW (cc := pm_b x) (maxL := pm_ml x) (ret := pm_ret x) hpl rfl ?_
  intro p e s mi args below meth c s₁ B hml hv
  obtain ⟨rfl, hWd, hK, hTb⟩ := hv
  have hr := B.returns
  have hlocks := B.notSynchronized
  have E : pm_En x p (headSpec (pm_ws x) (pm_rm x h h1)).room s mi (as.map (pm_tv N0 b)).toArray meth c dC dI cA := ⟨B.exec, B.bytes, hml, findClass_of_methodNamed B.named, Or.inr (name_of_methodNamed B.named B.method).1, fun w hw => hTb w hw _, hK, Nat.le_refl _, Nat.le_refl _⟩
  rw [lg_entry_eq]
  have hW := IH x 0 _ [] h v h1 hex p e (headSpec (pm_ws x) (pm_rm x h h1)).room s mi (as.map (pm_tv N0 b)).toArray below meth c (MQ below (pm_Qc N0 b dC dI cA v h1) (as.map (pm_tv N0 b)).toArray s (h1.1 - h.1) (h1.2.1 - h.2.1) (fun q => N0 ≤ q)) N0 b dC dI cA 0 0 E hTb (fun q => absurd q hx) (by rw [Nat.zero_add]; exact Nat.le_refl _) (by rw [Nat.zero_add]; exact Nat.le_refl _) (by
    intro pcr lsr H locs rls D hrd
    rw [Nat.zero_add, Nat.zero_add]
    have hq : ∀ t : State, t.heap = H → s.WarmedH t.vm → pm_Qc N0 b dC dI cA v h1 (as.map (pm_tv N0 b)).toArray s (.returned (v.map (pm_tv N0 b))) t := fun t ht _ => ⟨rfl, by rw [ht]; exact D.1, fun q hq => by rw [ht]; exact D.2.1 q hq⟩
    rcases hrd with ⟨rfl, h2, h3⟩ | ⟨w, rfl, h3, h4⟩
    · exact W.vret B.exec B.bytes (hr.trans h2) hq D.2.2.1 h3
    · rcases h4 with h4 | ⟨h4, h5⟩
      · exact W.iret B.exec B.bytes (hr.trans h4) hq D.2.2.1 h3
      · refine W.zret B.exec B.bytes (hr.trans h4) ?_ hq D.2.2.1 h3
        rcases h5 with rfl | rfl <;> rfl)
  exact hW s.heap [] _ ⟨hWd, fun _ _ => rfl, (fun q hq => absurd hq List.not_mem_nil), pm_entry has hlen⟩
theorem pm_sound (l : Launch) : ∀ f, pm_P l f
  | 0 => fun m pc ls st h r h' hex => by simp [pm_ex] at hex
  | f + 1 => by
    have IH := pm_sound l f
    intro m pc ls st h r h' hex p e R s mi args below meth c Q N0 b dC dI cA cells slots E hTb hSc hcl hsl hrt
    have hle0 := pm_ex_le (f + 1) _ _ hex
    unfold pm_ex at hex
    cases hst : pm_st (m, pc, ls, st, h) with
    | none => rw [hst] at hex; cases hex
    | some q =>
      rw [hst] at hex
      unfold pm_st at hst
      dsimp only at hst
      cases hco : pm_code m pc with
      | none => rw [hco] at hst; cases hst
      | some i =>
        rw [hco] at hst
        dsimp only at hst
        rcases q with r0 | s' | ⟨s1, fr⟩
        · obtain ⟨rv, rh⟩ := r0
          cases hex
          obtain ⟨rfl, hrr⟩ := pm_ins_ret hst
          rw [Nat.sub_self, Nat.sub_self, Nat.add_zero, Nat.add_zero] at hrt
          have hchk := pm_chk_of hco
          obtain ⟨ins, len, x, y, z, w⟩ := i
          unfold pm_chk at hchk
          rw [Bool.and_eq_true, decide_eq_true_eq] at hchk
          obtain ⟨hd, hck⟩ := hchk
          dsimp only at hd hck hrr
          rcases hrr with ⟨rfl, rfl, rfl⟩ | ⟨rfl, v, rfl, rfl, hv⟩
          · simp only [Bool.and_eq_true, decide_eq_true_eq] at hck
            obtain ⟨rfl, hck⟩ := hck
            intro H locs rls D
            exact hrt pc ls H locs rls D (Or.inl ⟨rfl, hck, hd⟩)
          · simp only [Bool.and_eq_true, decide_eq_true_eq] at hck
            obtain ⟨⟨rfl, hck⟩, hx01⟩ := hck
            intro H locs rls D
            refine hrt pc ls H locs rls D (Or.inr ⟨v, rfl, hd, ?_⟩)
            by_cases hx0 : x = 0
            · rw [if_pos hx0] at hck
              exact Or.inl hck
            · rw [if_neg hx0] at hck
              exact Or.inr ⟨hck, hv.resolve_left hx0⟩
        · obtain ⟨m', pc', ls', st', h2⟩ := s'
          obtain ⟨rfl, hle⟩ := pm_step_le hst
          have hle2 := pm_ex_le f _ _ hex
          try dsimp only at hex hle2
          have a1 := hle.1
          have a2 := hle.2.1
          have b1 := hle2.1
          have b2 := hle2.2.1
          try dsimp only at b1 b2
          have ec : cells + (h2.1 - h.1) + (h'.1 - h2.1) = cells + (h'.1 - h.1) := by omega
          have es : slots + (h2.2.1 - h.2.1) + (h'.2.1 - h2.2.1) = slots + (h'.2.1 - h.2.1) := by omega
          intro H locs rls D
          have hh := D.1.2.1
          refine pm_step hco hst E hSc (by omega) (by omega) ?_ H locs rls D
          refine IH _ _ _ _ _ _ _ hex p e R s mi args below meth c Q N0 b dC dI cA _ _ E hTb (fun hm => ?_) (by rw [ec]; exact hcl) (by rw [es]; exact hsl) (by rw [ec, es]; exact hrt)
          obtain ⟨-, l2, l3⟩ := hle.2.2 hh
          have := hSc hm
          unfold pm_hk pm_hl pm_hi at this ⊢
          rw [l2, l3]
          exact this
        · obtain ⟨z, hz, hca⟩ := pm_ins_call hst
          obtain ⟨c1, c2, c3, c4, hq⟩ := pm_call_spec hca
          cases hq
          dsimp only at hex
          cases hex2 : pm_ex f (i.2.2.1, 0, (st.take i.2.2.2.1).reverse ++ List.replicate (pm_ml i.2.2.1 - i.2.2.2.1) Value.null, [], h) with
          | none => rw [hex2] at hex; cases hex
          | some w2 =>
            obtain ⟨v, h1⟩ := w2
            rw [hex2] at hex
            dsimp only at hex
            have hle := pm_ex_le f _ _ hex2
            have hle2 := pm_ex_le f _ _ hex
            have a1 := hle.1
            have a2 := hle.2.1
            have b1 := hle2.1
            have b2 := hle2.2.1
            try dsimp only at a1 a2 b1 b2
            have ec : cells + (h1.1 - h.1) + (h'.1 - h1.1) = cells + (h'.1 - h.1) := by omega
            have es : slots + (h1.2.1 - h.2.1) + (h'.2.1 - h1.2.1) = slots + (h'.2.1 - h.2.1) := by omega
            have hchk := pm_chk_of hco
            have hnl : i.2.2.1 ≠ pm_law := pm_nolaw_of hco (by
              rcases hz with ⟨-, hz⟩ | ⟨-, hz, -⟩ | ⟨-, hz, -⟩
              · exact Or.inl hz
              · exact Or.inr (Or.inl hz)
              · exact Or.inr (Or.inr hz))
            obtain ⟨ins, len, x, y, zz, w⟩ := i
            unfold pm_chk at hchk
            rw [Bool.and_eq_true, decide_eq_true_eq] at hchk
            obtain ⟨hd, hck⟩ := hchk
            dsimp only at hd hck hz hnl hca hex2 c1 c2 c3 c4 hex
            have hlen : ((st.take y).reverse).length = y := by rw [List.length_reverse, List.length_take]; omega
            have key : ∃ idx, ((z = 0 ∧ decode (pm_b m) pc = .ok (.invokevirtual idx, 3)) ∨ (z = 1 ∧ decode (pm_b m) pc = .ok (.invokestatic idx, 3)) ∨ (z = 2 ∧ decode (pm_b m) pc = .ok (.invokespecial idx, 3))) ∧ pm_chkC m idx x y z w = true := by
              rcases hz with ⟨rfl, k, rfl⟩ | ⟨rfl, ⟨k, rfl⟩, h4, h5⟩ | ⟨rfl, ⟨k, rfl⟩, h3⟩
              · simp only [Bool.and_eq_true, decide_eq_true_eq] at hck
                obtain ⟨rfl, hck⟩ := hck
                exact ⟨k, Or.inl ⟨rfl, hd⟩, hck⟩
              · simp only [Bool.and_eq_true, decide_eq_true_eq] at hck
                obtain ⟨rfl, hck⟩ := hck
                rw [if_neg h4, if_neg h5] at hck
                exact ⟨k, Or.inr (Or.inl ⟨rfl, hd⟩), hck⟩
              · simp only [Bool.and_eq_true, decide_eq_true_eq] at hck
                obtain ⟨rfl, hck⟩ := hck
                rw [if_neg h3] at hck
                exact ⟨k, Or.inr (Or.inr ⟨rfl, hd⟩), hck⟩
            obtain ⟨idx, hdd, hcc⟩ := key
            have hcc0 := hcc
            simp only [pm_chkC, Bool.and_eq_true, decide_eq_true_eq] at hcc0
            have hyl : y ≤ pm_ml x := hcc0.1.1.1.1.1.1.1.1.1.1.1.1.2
            have hpl : plainName (pm_y x).cls = true := hcc0.1.1.2
            have hM : pm_Mt l N0 b dC dI cA x (st.take y).reverse h v h1 := pm_met IH hnl (fun v hv => c2 v (List.mem_reverse.mp hv)) (by rw [hlen]; exact hyl) hpl (by rw [hlen]; exact hex2)
            intro H locs rls D
            have hh := D.1.2.1
            refine pm_s_call E hTb hdd hcc hca hM (by omega) (by omega) ?_ H locs rls D
            refine IH _ _ _ _ _ _ _ hex p e R s mi args below meth c Q N0 b dC dI cA _ _ E hTb (fun hm => ?_) (by rw [ec]; exact hcl) (by rw [es]; exact hsl) (by rw [ec, es]; exact hrt)
            obtain ⟨-, l2, l3⟩ := hle.2.2 hh
            try dsimp only at l2 l3
            have := hSc hm
            unfold pm_hk pm_hl pm_hi at this ⊢
            rw [l2, l3]
            exact this
