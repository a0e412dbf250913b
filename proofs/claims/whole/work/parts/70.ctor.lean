/-! the two constructors, by counting -/
abbrev ct_E : Type := (Nat × Nat) ⊕ ((Nat × Nat × Int32) ⊕ (Nat × Nat × Nat))
def ct_ap (h : pm_H) : List ct_E → pm_H
  | [] => h
  | .inl (k, n) :: l => pm_new (ct_ap h l) k n
  | .inr (.inl (a, j, v)) :: l => pm_setI (ct_ap h l) a j v
  | .inr (.inr (a, j, b)) :: l => pm_setR (ct_ap h l) a j (some b)
def ct_n : List ct_E → Nat
  | [] => 0
  | .inl _ :: l => ct_n l + 1
  | .inr _ :: l => ct_n l
def ct_s : List ct_E → Nat
  | [] => 0
  | .inl (_, n) :: l => ct_s l + n
  | .inr _ :: l => ct_s l
def ct_k : List ct_E → Nat → Nat × Nat
  | [], _ => (0, 0)
  | .inl q :: l, a => if a = ct_n l then q else ct_k l a
  | .inr _ :: l, a => ct_k l a
def ct_r : List ct_E → Nat → Nat → Option Nat
  | [], _, _ => none
  | .inl _ :: l, a, j => if a = ct_n l then none else ct_r l a j
  | .inr (.inl _) :: l, a, j => ct_r l a j
  | .inr (.inr (a', j', b)) :: l, a, j => if a = a' ∧ j = j' then some b else ct_r l a j
def ct_i : List ct_E → Nat → Nat → Int32
  | [], _, _ => 0
  | .inl _ :: l, a, j => if a = ct_n l then 0 else ct_i l a j
  | .inr (.inl (a', j', v)) :: l, a, j => if a = a' ∧ j = j' then v else ct_i l a j
  | .inr (.inr _) :: l, a, j => ct_i l a j
section CT
variable (L : Nat) (xs : Nat → Int32)
theorem ct_n_ok : ∀ l : List ct_E, (ct_ap (pm_h0 L xs) l).1 = ct_n l
  | [] => rfl
  | .inl (k, n) :: l => by show (ct_ap (pm_h0 L xs) l).1 + 1 = _; rw [ct_n_ok l]; rfl
  | .inr (.inl (a, j, v)) :: l => ct_n_ok l
  | .inr (.inr (a, j, b)) :: l => ct_n_ok l
theorem ct_s_ok : ∀ l : List ct_E, (ct_ap (pm_h0 L xs) l).2.1 = ct_s l
  | [] => rfl
  | .inl (k, n) :: l => by show (ct_ap (pm_h0 L xs) l).2.1 + n = _; rw [ct_s_ok l]; rfl
  | .inr (.inl (a, j, v)) :: l => ct_s_ok l
  | .inr (.inr (a, j, b)) :: l => ct_s_ok l
theorem ct_k_ok : ∀ (l : List ct_E) (a : Nat), a ≠ pm_scr → (ct_ap (pm_h0 L xs) l).2.2.1 a = ct_k l a
  | [], a, ha => if_neg ha
  | .inl (k, n) :: l, a, ha => by
    show (if a = (ct_ap (pm_h0 L xs) l).1 then (k, n) else (ct_ap (pm_h0 L xs) l).2.2.1 a) = _
    rw [ct_n_ok L xs l, ct_k_ok l a ha]
    rfl
  | .inr (.inl (a', j, v)) :: l, a, ha => ct_k_ok l a ha
  | .inr (.inr (a', j, b)) :: l, a, ha => ct_k_ok l a ha
theorem ct_r_ok : ∀ (l : List ct_E) (a j : Nat), (ct_ap (pm_h0 L xs) l).2.2.2.2 a j = ct_r l a j
  | [], a, j => rfl
  | .inl (k, n) :: l, a, j => by
    show (if a = (ct_ap (pm_h0 L xs) l).1 then (fun _ => none) else (ct_ap (pm_h0 L xs) l).2.2.2.2 a) j = if a = ct_n l then none else ct_r l a j
    rw [ct_n_ok L xs l]
    by_cases c : a = ct_n l
    · rw [if_pos c, if_pos c]
    · rw [if_neg c, if_neg c, ct_r_ok l a j]
  | .inr (.inl (a', j', v)) :: l, a, j => ct_r_ok l a j
  | .inr (.inr (a', j', b)) :: l, a, j => by
    show (if a = a' then va_up ((ct_ap (pm_h0 L xs) l).2.2.2.2 a') j' (some b) else (ct_ap (pm_h0 L xs) l).2.2.2.2 a) j = if a = a' ∧ j = j' then some b else ct_r l a j
    by_cases c : a = a'
    · subst c
      rw [if_pos rfl]
      unfold va_up
      by_cases c2 : j = j'
      · rw [if_pos c2, if_pos ⟨rfl, c2⟩]
      · rw [if_neg c2, if_neg (fun q => c2 q.2), ct_r_ok l a j]
    · rw [if_neg c, if_neg (fun q => c q.1), ct_r_ok l a j]
theorem ct_i_ok : ∀ (l : List ct_E) (a j : Nat), a ≠ pm_scr → (ct_ap (pm_h0 L xs) l).2.2.2.1 a j = ct_i l a j
  | [], a, j, ha => by
    show (if a = pm_scr then xs else fun _ => 0) j = 0
    rw [if_neg ha]
  | .inl (k, n) :: l, a, j, ha => by
    show (if a = (ct_ap (pm_h0 L xs) l).1 then (fun _ => 0) else (ct_ap (pm_h0 L xs) l).2.2.2.1 a) j = if a = ct_n l then 0 else ct_i l a j
    rw [ct_n_ok L xs l]
    by_cases c : a = ct_n l
    · rw [if_pos c, if_pos c]
    · rw [if_neg c, if_neg c, ct_i_ok l a j ha]
  | .inr (.inr (a', j', b)) :: l, a, j, ha => ct_i_ok l a j ha
  | .inr (.inl (a', j', v)) :: l, a, j, ha => by
    show (if a = a' then upd ((ct_ap (pm_h0 L xs) l).2.2.2.1 a') j' v else (ct_ap (pm_h0 L xs) l).2.2.2.1 a) j = if a = a' ∧ j = j' then v else ct_i l a j
    by_cases c : a = a'
    · subst c
      rw [if_pos rfl]
      unfold upd
      by_cases c2 : j = j'
      · rw [if_pos c2, if_pos ⟨rfl, c2⟩]
      · rw [if_neg c2, if_neg (fun q => c2 q.2), ct_i_ok l a j ha]
    · rw [if_neg c, if_neg (fun q => c q.1), ct_i_ok l a j ha]
/-- no event is at the script -/
def ct_ns : List ct_E → Bool
  | [] => true
  | .inl _ :: l => decide (ct_n l < pm_scr) && ct_ns l
  | .inr (.inl (a, _, _)) :: l => decide (a < pm_scr) && ct_ns l
  | .inr (.inr _) :: l => ct_ns l
theorem ct_scr : ∀ (l : List ct_E), ct_ns l = true → (ct_ap (pm_h0 L xs) l).2.2.2.1 pm_scr = xs ∧ (ct_ap (pm_h0 L xs) l).2.2.1 pm_scr = (11, L)
  | [], _ => by
    refine ⟨?_, ?_⟩
    · show (if pm_scr = pm_scr then xs else fun _ => 0) = xs
      rw [if_pos rfl]
    · show (if pm_scr = pm_scr then (11, L) else (0, 0)) = (11, L)
      rw [if_pos rfl]
  | .inl (k, n) :: l, h => by
    have h' := Bool.and_eq_true_iff.mp h
    have h1 : ct_n l < pm_scr := of_decide_eq_true h'.1
    have ih := ct_scr l h'.2
    show (if pm_scr = (ct_ap (pm_h0 L xs) l).1 then (fun _ => 0) else (ct_ap (pm_h0 L xs) l).2.2.2.1 pm_scr) = xs ∧ (if pm_scr = (ct_ap (pm_h0 L xs) l).1 then (k, n) else (ct_ap (pm_h0 L xs) l).2.2.1 pm_scr) = (11, L)
    rw [ct_n_ok L xs l, if_neg (by omega), if_neg (by omega)]
    exact ih
  | .inr (.inl (a, j, v)) :: l, h => by
    have h' := Bool.and_eq_true_iff.mp h
    have h1 : a < pm_scr := of_decide_eq_true h'.1
    have ih := ct_scr l h'.2
    show (if pm_scr = a then upd ((ct_ap (pm_h0 L xs) l).2.2.2.1 a) j v else (ct_ap (pm_h0 L xs) l).2.2.2.1 pm_scr) = xs ∧ _
    rw [if_neg (by omega)]
    exact ih
  | .inr (.inr (a, j, b)) :: l, h => ct_scr l h
end CT
abbrev ct_S : Type := Nat × Nat × List Value × List Value × List ct_E
abbrev ct_O : Type := Option (Unit ⊕ (ct_S ⊕ (ct_S × pm_F)))
def ct_go (m pc : Nat) (ls st : List Value) (l : List ct_E) : ct_O := some (.inr (.inl (m, pc, ls, st, l)))
def ct_call (x y m pc : Nat) (ls st : List Value) (l : List ct_E) : ct_O :=
  if y ≤ st.length ∧ ((st.take y).all fun v => v.category == 1) = true ∧ pm_recv x 2 (st.take y).reverse (0, 0, (fun _ => (0, 0)), (fun _ _ => 0), (fun _ _ => none)) = true ∧ ((st.drop y).map Value.category).sum ≤ 8 then
    some (.inr (.inr ((x, 0, (st.take y).reverse ++ List.replicate (pm_ml x - y) Value.null, [], l), (m, pc, ls, st.drop y))))
  else none
def ct_st (i : pm_I) (m pc : Nat) (ls st : List Value) (l : List ct_E) : ct_O := match i.1 with
  | .aload_n k => match ls[k.val]? with
    | some (.ref a) => ct_go m (pc + 1) ls (.ref a :: st) l
    | _ => none
  | .iload_n k => match ls[k.val]? with
    | some (.int a) => ct_go m (pc + 1) ls (.int a :: st) l
    | _ => none
  | .istore_n k => match st with
    | .int a :: st => if k.val < ls.length then ct_go m (pc + 1) (ls.set k.val (.int a)) st l else none
    | _ => none
  | .iinc k n => match ls[k]? with
    | some (.int a) => if k < ls.length then ct_go m (pc + 3) (ls.set k (.int (a + Int32.ofInt n))) st l else none
    | _ => none
  | .iconst n => ct_go m (pc + 1) ls (.int (Int32.ofInt n) :: st) l
  | .bipush n => ct_go m (pc + 2) ls (.int (Int8.ofInt n).toInt32 :: st) l
  | .sipush n => ct_go m (pc + 3) ls (.int (Int16.ofInt n).toInt32 :: st) l
  | .goto _ => ct_go m i.2.2.1 ls st l
  | .if_icmp .ge _ => match st with
    | .int y :: .int x :: st => if x < y then ct_go m (pc + 3) ls st l else ct_go m i.2.2.1 ls st l
    | _ => none
  | .dup => match st with
    | .ref x :: st => ct_go m (pc + 1) ls (.ref x :: .ref x :: st) l
    | _ => none
  | .newarray _ => match st with
    | .int n :: st => if 0 ≤ n ∧ n.toNatClampNeg ≤ 60000 ∧ ct_n l < pm_scr then ct_go m (pc + 2) ls (.ref (ct_n l) :: st) (.inl (i.2.2.1, n.toNatClampNeg) :: l) else none
    | _ => none
  | .anewarray _ => match st with
    | .int n :: st => if 0 ≤ n ∧ n.toNatClampNeg ≤ 60000 ∧ ct_n l < pm_scr then ct_go m (pc + 3) ls (.ref (ct_n l) :: st) (.inl (i.2.2.1, n.toNatClampNeg) :: l) else none
    | _ => none
  | .new _ => if ct_n l < pm_scr then ct_go m (pc + 3) ls (.ref (ct_n l) :: st) (.inl (i.2.2.1, pm_N i.2.2.1) :: l) else none
  | .putfield _ => match st with
    | .int v :: .ref a :: st => if a < ct_n l ∧ a < pm_scr ∧ (ct_k l a).1 = i.2.2.1 ∧ i.2.2.2.2.1 = 0 then ct_go m (pc + 3) ls st (.inr (.inl (a, i.2.2.2.1, v)) :: l) else none
    | .ref v :: .ref a :: st => if a < ct_n l ∧ a < pm_scr ∧ (ct_k l a).1 = i.2.2.1 ∧ i.2.2.2.2.1 = 1 then ct_go m (pc + 3) ls st (.inr (.inr (a, i.2.2.2.1, v)) :: l) else none
    | _ => none
  | .getfield _ => match st with
    | .ref a :: st => if a < ct_n l ∧ a < pm_scr ∧ (ct_k l a).1 = i.2.2.1 ∧ i.2.2.2.2.1 = 1 then ct_go m (pc + 3) ls (va_rf (ct_r l a i.2.2.2.1) :: st) l else none
    | _ => none
  | .aastore => match st with
    | .ref v :: .int j :: .ref a :: st => if (a < ct_n l ∧ a < pm_scr ∧ v < pm_scr) ∧ (13 ≤ (ct_k l a).1 ∧ (ct_k l a).1 < 16) ∧ (0 ≤ j ∧ j.toNatClampNeg < (ct_k l a).2) ∧ (v < ct_n l ∧ (ct_k l v).1 = pm_eK (ct_k l a).1) then ct_go m (pc + 1) ls st (.inr (.inr (a, j.toNatClampNeg, v)) :: l) else none
    | _ => none
  | .invokespecial _ => if i.2.2.2.2.1 = 3 then (match st with
      | .ref _ :: st => if (st.map Value.category).sum ≤ 8 then ct_go m (pc + 3) ls st l else none
      | _ => none) else ct_call i.2.2.1 i.2.2.2.1 m (pc + 3) ls st l
  | .return_ => match st with
    | [] => some (.inl ())
    | _ => none
  | _ => none
/-- what a step of the counting says of the machine -/
def ct_ok (L : Nat) (xs : Nat → Int32) (l : List ct_E) (o : pm_O) : Unit ⊕ (ct_S ⊕ (ct_S × pm_F)) → Prop
  | .inl _ => o = some (.inl (none, ct_ap (pm_h0 L xs) l))
  | .inr (.inl (m, pc, ls, st, l')) => o = some (.inr (.inl (m, pc, ls, st, ct_ap (pm_h0 L xs) l')))
  | .inr (.inr ((m, pc, ls, st, l'), fr)) => o = some (.inr (.inr ((m, pc, ls, st, ct_ap (pm_h0 L xs) l'), fr)))
theorem ct_aload (L : Nat) (xs : Nat → Int32) {len x y z w m pc : Nat} {ls st : List Value} {l : List ct_E} {r : Unit ⊕ (ct_S ⊕ (ct_S × pm_F))} (k : Fin 4) (h : ct_st (.aload_n k, len, x, y, z, w) m pc ls st l = some r) : ct_ok L xs l (pm_ins (.aload_n k, len, x, y, z, w) m pc ls st (ct_ap (pm_h0 L xs) l)) r := by
  have n1 := ct_n_ok L xs l
  have hk : ∀ a, a < pm_scr → pm_hk (ct_ap (pm_h0 L xs) l) a = (ct_k l a).1 := fun a ha => by
    show ((ct_ap (pm_h0 L xs) l).2.2.1 a).1 = _
    rw [ct_k_ok L xs l a (by omega)]
  have hl : ∀ a, a < pm_scr → pm_hl (ct_ap (pm_h0 L xs) l) a = (ct_k l a).2 := fun a ha => by
    show ((ct_ap (pm_h0 L xs) l).2.2.1 a).2 = _
    rw [ct_k_ok L xs l a (by omega)]
  have hr : ∀ a j, pm_hr (ct_ap (pm_h0 L xs) l) a j = ct_r l a j := fun a j => ct_r_ok L xs l a j
  change (match ls[k.val]? with | some (.ref a) => ct_go m (pc + 1) ls (.ref a :: st) l | _ => none) = some r at h
  show ct_ok L xs l (pm_aload k.val m (pc + 1) ls st (ct_ap (pm_h0 L xs) l)) r
  unfold pm_aload
  split at h
  · rename_i a q
    cases h
    rw [q]
    rfl
  · cases h

theorem ct_iload (L : Nat) (xs : Nat → Int32) {len x y z w m pc : Nat} {ls st : List Value} {l : List ct_E} {r : Unit ⊕ (ct_S ⊕ (ct_S × pm_F))} (k : Fin 4) (h : ct_st (.iload_n k, len, x, y, z, w) m pc ls st l = some r) : ct_ok L xs l (pm_ins (.iload_n k, len, x, y, z, w) m pc ls st (ct_ap (pm_h0 L xs) l)) r := by
  have n1 := ct_n_ok L xs l
  have hk : ∀ a, a < pm_scr → pm_hk (ct_ap (pm_h0 L xs) l) a = (ct_k l a).1 := fun a ha => by
    show ((ct_ap (pm_h0 L xs) l).2.2.1 a).1 = _
    rw [ct_k_ok L xs l a (by omega)]
  have hl : ∀ a, a < pm_scr → pm_hl (ct_ap (pm_h0 L xs) l) a = (ct_k l a).2 := fun a ha => by
    show ((ct_ap (pm_h0 L xs) l).2.2.1 a).2 = _
    rw [ct_k_ok L xs l a (by omega)]
  have hr : ∀ a j, pm_hr (ct_ap (pm_h0 L xs) l) a j = ct_r l a j := fun a j => ct_r_ok L xs l a j
  change (match ls[k.val]? with | some (.int a) => ct_go m (pc + 1) ls (.int a :: st) l | _ => none) = some r at h
  show ct_ok L xs l (pm_iload k.val m (pc + 1) ls st (ct_ap (pm_h0 L xs) l)) r
  unfold pm_iload
  split at h
  · rename_i a q
    cases h
    rw [q]
    rfl
  · cases h

theorem ct_istore (L : Nat) (xs : Nat → Int32) {len x y z w m pc : Nat} {ls st : List Value} {l : List ct_E} {r : Unit ⊕ (ct_S ⊕ (ct_S × pm_F))} (k : Fin 4) (h : ct_st (.istore_n k, len, x, y, z, w) m pc ls st l = some r) : ct_ok L xs l (pm_ins (.istore_n k, len, x, y, z, w) m pc ls st (ct_ap (pm_h0 L xs) l)) r := by
  have n1 := ct_n_ok L xs l
  have hk : ∀ a, a < pm_scr → pm_hk (ct_ap (pm_h0 L xs) l) a = (ct_k l a).1 := fun a ha => by
    show ((ct_ap (pm_h0 L xs) l).2.2.1 a).1 = _
    rw [ct_k_ok L xs l a (by omega)]
  have hl : ∀ a, a < pm_scr → pm_hl (ct_ap (pm_h0 L xs) l) a = (ct_k l a).2 := fun a ha => by
    show ((ct_ap (pm_h0 L xs) l).2.2.1 a).2 = _
    rw [ct_k_ok L xs l a (by omega)]
  have hr : ∀ a j, pm_hr (ct_ap (pm_h0 L xs) l) a j = ct_r l a j := fun a j => ct_r_ok L xs l a j
  rcases st with _ | ⟨v, st⟩
  · cases h
  · cases v with
    | int a =>
      change (if k.val < ls.length then ct_go m (pc + 1) (ls.set k.val (.int a)) st l else none) = some r at h
      show ct_ok L xs l (if k.val < ls.length then pm_go m (pc + 1) (ls.set k.val (.int a)) st (ct_ap (pm_h0 L xs) l) else none) r
      by_cases c : k.val < ls.length
      · rw [if_pos c] at h ⊢
        cases h
        rfl
      · rw [if_neg c] at h
        cases h
    | _ => cases h

theorem ct_iinc (L : Nat) (xs : Nat → Int32) {len x y z w m pc : Nat} {ls st : List Value} {l : List ct_E} {r : Unit ⊕ (ct_S ⊕ (ct_S × pm_F))} (k : Nat) (n : Int) (h : ct_st (.iinc k n, len, x, y, z, w) m pc ls st l = some r) : ct_ok L xs l (pm_ins (.iinc k n, len, x, y, z, w) m pc ls st (ct_ap (pm_h0 L xs) l)) r := by
  have n1 := ct_n_ok L xs l
  have hk : ∀ a, a < pm_scr → pm_hk (ct_ap (pm_h0 L xs) l) a = (ct_k l a).1 := fun a ha => by
    show ((ct_ap (pm_h0 L xs) l).2.2.1 a).1 = _
    rw [ct_k_ok L xs l a (by omega)]
  have hl : ∀ a, a < pm_scr → pm_hl (ct_ap (pm_h0 L xs) l) a = (ct_k l a).2 := fun a ha => by
    show ((ct_ap (pm_h0 L xs) l).2.2.1 a).2 = _
    rw [ct_k_ok L xs l a (by omega)]
  have hr : ∀ a j, pm_hr (ct_ap (pm_h0 L xs) l) a j = ct_r l a j := fun a j => ct_r_ok L xs l a j
  change (match ls[k]? with | some (.int a) => (if k < ls.length then ct_go m (pc + 3) (ls.set k (.int (a + Int32.ofInt n))) st l else none) | _ => none) = some r at h
  show ct_ok L xs l (pm_iinc k n m (pc + 3) ls st (ct_ap (pm_h0 L xs) l)) r
  unfold pm_iinc
  split at h
  · rename_i a q
    rw [q]
    show ct_ok L xs l (if k < ls.length then pm_go m (pc + 3) (ls.set k (.int (a + Int32.ofInt n))) st (ct_ap (pm_h0 L xs) l) else none) r
    by_cases c : k < ls.length
    · rw [if_pos c] at h ⊢
      cases h
      rfl
    · rw [if_neg c] at h
      cases h
  · cases h

theorem ct_iconst (L : Nat) (xs : Nat → Int32) {len x y z w m pc : Nat} {ls st : List Value} {l : List ct_E} {r : Unit ⊕ (ct_S ⊕ (ct_S × pm_F))} (n : Int) (h : ct_st (.iconst n, len, x, y, z, w) m pc ls st l = some r) : ct_ok L xs l (pm_ins (.iconst n, len, x, y, z, w) m pc ls st (ct_ap (pm_h0 L xs) l)) r := by
  have n1 := ct_n_ok L xs l
  have hk : ∀ a, a < pm_scr → pm_hk (ct_ap (pm_h0 L xs) l) a = (ct_k l a).1 := fun a ha => by
    show ((ct_ap (pm_h0 L xs) l).2.2.1 a).1 = _
    rw [ct_k_ok L xs l a (by omega)]
  have hl : ∀ a, a < pm_scr → pm_hl (ct_ap (pm_h0 L xs) l) a = (ct_k l a).2 := fun a ha => by
    show ((ct_ap (pm_h0 L xs) l).2.2.1 a).2 = _
    rw [ct_k_ok L xs l a (by omega)]
  have hr : ∀ a j, pm_hr (ct_ap (pm_h0 L xs) l) a j = ct_r l a j := fun a j => ct_r_ok L xs l a j
  cases h
  rfl

theorem ct_bipush (L : Nat) (xs : Nat → Int32) {len x y z w m pc : Nat} {ls st : List Value} {l : List ct_E} {r : Unit ⊕ (ct_S ⊕ (ct_S × pm_F))} (n : Int) (h : ct_st (.bipush n, len, x, y, z, w) m pc ls st l = some r) : ct_ok L xs l (pm_ins (.bipush n, len, x, y, z, w) m pc ls st (ct_ap (pm_h0 L xs) l)) r := by
  have n1 := ct_n_ok L xs l
  have hk : ∀ a, a < pm_scr → pm_hk (ct_ap (pm_h0 L xs) l) a = (ct_k l a).1 := fun a ha => by
    show ((ct_ap (pm_h0 L xs) l).2.2.1 a).1 = _
    rw [ct_k_ok L xs l a (by omega)]
  have hl : ∀ a, a < pm_scr → pm_hl (ct_ap (pm_h0 L xs) l) a = (ct_k l a).2 := fun a ha => by
    show ((ct_ap (pm_h0 L xs) l).2.2.1 a).2 = _
    rw [ct_k_ok L xs l a (by omega)]
  have hr : ∀ a j, pm_hr (ct_ap (pm_h0 L xs) l) a j = ct_r l a j := fun a j => ct_r_ok L xs l a j
  cases h
  rfl

theorem ct_sipush (L : Nat) (xs : Nat → Int32) {len x y z w m pc : Nat} {ls st : List Value} {l : List ct_E} {r : Unit ⊕ (ct_S ⊕ (ct_S × pm_F))} (n : Int) (h : ct_st (.sipush n, len, x, y, z, w) m pc ls st l = some r) : ct_ok L xs l (pm_ins (.sipush n, len, x, y, z, w) m pc ls st (ct_ap (pm_h0 L xs) l)) r := by
  have n1 := ct_n_ok L xs l
  have hk : ∀ a, a < pm_scr → pm_hk (ct_ap (pm_h0 L xs) l) a = (ct_k l a).1 := fun a ha => by
    show ((ct_ap (pm_h0 L xs) l).2.2.1 a).1 = _
    rw [ct_k_ok L xs l a (by omega)]
  have hl : ∀ a, a < pm_scr → pm_hl (ct_ap (pm_h0 L xs) l) a = (ct_k l a).2 := fun a ha => by
    show ((ct_ap (pm_h0 L xs) l).2.2.1 a).2 = _
    rw [ct_k_ok L xs l a (by omega)]
  have hr : ∀ a j, pm_hr (ct_ap (pm_h0 L xs) l) a j = ct_r l a j := fun a j => ct_r_ok L xs l a j
  cases h
  rfl

theorem ct_goto (L : Nat) (xs : Nat → Int32) {len x y z w m pc : Nat} {ls st : List Value} {l : List ct_E} {r : Unit ⊕ (ct_S ⊕ (ct_S × pm_F))} (n : Int) (h : ct_st (.goto n, len, x, y, z, w) m pc ls st l = some r) : ct_ok L xs l (pm_ins (.goto n, len, x, y, z, w) m pc ls st (ct_ap (pm_h0 L xs) l)) r := by
  have n1 := ct_n_ok L xs l
  have hk : ∀ a, a < pm_scr → pm_hk (ct_ap (pm_h0 L xs) l) a = (ct_k l a).1 := fun a ha => by
    show ((ct_ap (pm_h0 L xs) l).2.2.1 a).1 = _
    rw [ct_k_ok L xs l a (by omega)]
  have hl : ∀ a, a < pm_scr → pm_hl (ct_ap (pm_h0 L xs) l) a = (ct_k l a).2 := fun a ha => by
    show ((ct_ap (pm_h0 L xs) l).2.2.1 a).2 = _
    rw [ct_k_ok L xs l a (by omega)]
  have hr : ∀ a j, pm_hr (ct_ap (pm_h0 L xs) l) a j = ct_r l a j := fun a j => ct_r_ok L xs l a j
  cases h
  rfl

theorem ct_icmp (L : Nat) (xs : Nat → Int32) {len x y z w m pc : Nat} {ls st : List Value} {l : List ct_E} {r : Unit ⊕ (ct_S ⊕ (ct_S × pm_F))} (n : Int) (h : ct_st (.if_icmp .ge n, len, x, y, z, w) m pc ls st l = some r) : ct_ok L xs l (pm_ins (.if_icmp .ge n, len, x, y, z, w) m pc ls st (ct_ap (pm_h0 L xs) l)) r := by
  have n1 := ct_n_ok L xs l
  have hk : ∀ a, a < pm_scr → pm_hk (ct_ap (pm_h0 L xs) l) a = (ct_k l a).1 := fun a ha => by
    show ((ct_ap (pm_h0 L xs) l).2.2.1 a).1 = _
    rw [ct_k_ok L xs l a (by omega)]
  have hl : ∀ a, a < pm_scr → pm_hl (ct_ap (pm_h0 L xs) l) a = (ct_k l a).2 := fun a ha => by
    show ((ct_ap (pm_h0 L xs) l).2.2.1 a).2 = _
    rw [ct_k_ok L xs l a (by omega)]
  have hr : ∀ a j, pm_hr (ct_ap (pm_h0 L xs) l) a j = ct_r l a j := fun a j => ct_r_ok L xs l a j
  rcases st with _ | ⟨v, st⟩
  · cases h
  · cases v with
    | int y' =>
      rcases st with _ | ⟨v, st⟩
      · cases h
      · cases v with
        | int x' =>
          change (if x' < y' then ct_go m (pc + 3) ls st l else ct_go m x ls st l) = some r at h
          show ct_ok L xs l (if x' < y' then pm_go m (pc + 3) ls st (ct_ap (pm_h0 L xs) l) else pm_go m x ls st (ct_ap (pm_h0 L xs) l)) r
          by_cases c : x' < y'
          · rw [if_pos c] at h ⊢
            cases h
            rfl
          · rw [if_neg c] at h ⊢
            cases h
            rfl
        | _ => cases h
    | _ => cases h

theorem ct_dup (L : Nat) (xs : Nat → Int32) {len x y z w m pc : Nat} {ls st : List Value} {l : List ct_E} {r : Unit ⊕ (ct_S ⊕ (ct_S × pm_F))}  (h : ct_st (.dup, len, x, y, z, w) m pc ls st l = some r) : ct_ok L xs l (pm_ins (.dup, len, x, y, z, w) m pc ls st (ct_ap (pm_h0 L xs) l)) r := by
  have n1 := ct_n_ok L xs l
  have hk : ∀ a, a < pm_scr → pm_hk (ct_ap (pm_h0 L xs) l) a = (ct_k l a).1 := fun a ha => by
    show ((ct_ap (pm_h0 L xs) l).2.2.1 a).1 = _
    rw [ct_k_ok L xs l a (by omega)]
  have hl : ∀ a, a < pm_scr → pm_hl (ct_ap (pm_h0 L xs) l) a = (ct_k l a).2 := fun a ha => by
    show ((ct_ap (pm_h0 L xs) l).2.2.1 a).2 = _
    rw [ct_k_ok L xs l a (by omega)]
  have hr : ∀ a j, pm_hr (ct_ap (pm_h0 L xs) l) a j = ct_r l a j := fun a j => ct_r_ok L xs l a j
  rcases st with _ | ⟨v, st⟩
  · cases h
  · cases v with
    | ref a =>
      cases h
      rfl
    | _ => cases h

theorem ct_newarray (L : Nat) (xs : Nat → Int32) {len x y z w m pc : Nat} {ls st : List Value} {l : List ct_E} {r : Unit ⊕ (ct_S ⊕ (ct_S × pm_F))} (t : ArrayType) (h : ct_st (.newarray t, len, x, y, z, w) m pc ls st l = some r) : ct_ok L xs l (pm_ins (.newarray t, len, x, y, z, w) m pc ls st (ct_ap (pm_h0 L xs) l)) r := by
  have n1 := ct_n_ok L xs l
  have hk : ∀ a, a < pm_scr → pm_hk (ct_ap (pm_h0 L xs) l) a = (ct_k l a).1 := fun a ha => by
    show ((ct_ap (pm_h0 L xs) l).2.2.1 a).1 = _
    rw [ct_k_ok L xs l a (by omega)]
  have hl : ∀ a, a < pm_scr → pm_hl (ct_ap (pm_h0 L xs) l) a = (ct_k l a).2 := fun a ha => by
    show ((ct_ap (pm_h0 L xs) l).2.2.1 a).2 = _
    rw [ct_k_ok L xs l a (by omega)]
  have hr : ∀ a j, pm_hr (ct_ap (pm_h0 L xs) l) a j = ct_r l a j := fun a j => ct_r_ok L xs l a j
  rcases st with _ | ⟨v, st⟩
  · cases h
  · cases v with
    | int n =>
      change (if 0 ≤ n ∧ n.toNatClampNeg ≤ 60000 ∧ ct_n l < pm_scr then ct_go m (pc + 2) ls (.ref (ct_n l) :: st) (.inl (x, n.toNatClampNeg) :: l) else none) = some r at h
      show ct_ok L xs l (if 0 ≤ n ∧ n.toNatClampNeg ≤ 60000 ∧ (ct_ap (pm_h0 L xs) l).1 < pm_scr then pm_go m (pc + 2) ls (.ref (ct_ap (pm_h0 L xs) l).1 :: st) (pm_new (ct_ap (pm_h0 L xs) l) x n.toNatClampNeg) else none) r
      rw [n1]
      by_cases c : 0 ≤ n ∧ n.toNatClampNeg ≤ 60000 ∧ ct_n l < pm_scr
      · rw [if_pos c] at h ⊢
        cases h
        rfl
      · rw [if_neg c] at h
        cases h
    | _ => cases h

theorem ct_anewarray (L : Nat) (xs : Nat → Int32) {len x y z w m pc : Nat} {ls st : List Value} {l : List ct_E} {r : Unit ⊕ (ct_S ⊕ (ct_S × pm_F))} (t : Nat) (h : ct_st (.anewarray t, len, x, y, z, w) m pc ls st l = some r) : ct_ok L xs l (pm_ins (.anewarray t, len, x, y, z, w) m pc ls st (ct_ap (pm_h0 L xs) l)) r := by
  have n1 := ct_n_ok L xs l
  have hk : ∀ a, a < pm_scr → pm_hk (ct_ap (pm_h0 L xs) l) a = (ct_k l a).1 := fun a ha => by
    show ((ct_ap (pm_h0 L xs) l).2.2.1 a).1 = _
    rw [ct_k_ok L xs l a (by omega)]
  have hl : ∀ a, a < pm_scr → pm_hl (ct_ap (pm_h0 L xs) l) a = (ct_k l a).2 := fun a ha => by
    show ((ct_ap (pm_h0 L xs) l).2.2.1 a).2 = _
    rw [ct_k_ok L xs l a (by omega)]
  have hr : ∀ a j, pm_hr (ct_ap (pm_h0 L xs) l) a j = ct_r l a j := fun a j => ct_r_ok L xs l a j
  rcases st with _ | ⟨v, st⟩
  · cases h
  · cases v with
    | int n =>
      change (if 0 ≤ n ∧ n.toNatClampNeg ≤ 60000 ∧ ct_n l < pm_scr then ct_go m (pc + 3) ls (.ref (ct_n l) :: st) (.inl (x, n.toNatClampNeg) :: l) else none) = some r at h
      show ct_ok L xs l (if 0 ≤ n ∧ n.toNatClampNeg ≤ 60000 ∧ (ct_ap (pm_h0 L xs) l).1 < pm_scr then pm_go m (pc + 3) ls (.ref (ct_ap (pm_h0 L xs) l).1 :: st) (pm_new (ct_ap (pm_h0 L xs) l) x n.toNatClampNeg) else none) r
      rw [n1]
      by_cases c : 0 ≤ n ∧ n.toNatClampNeg ≤ 60000 ∧ ct_n l < pm_scr
      · rw [if_pos c] at h ⊢
        cases h
        rfl
      · rw [if_neg c] at h
        cases h
    | _ => cases h

theorem ct_new (L : Nat) (xs : Nat → Int32) {len x y z w m pc : Nat} {ls st : List Value} {l : List ct_E} {r : Unit ⊕ (ct_S ⊕ (ct_S × pm_F))} (t : Nat) (h : ct_st (.new t, len, x, y, z, w) m pc ls st l = some r) : ct_ok L xs l (pm_ins (.new t, len, x, y, z, w) m pc ls st (ct_ap (pm_h0 L xs) l)) r := by
  have n1 := ct_n_ok L xs l
  have hk : ∀ a, a < pm_scr → pm_hk (ct_ap (pm_h0 L xs) l) a = (ct_k l a).1 := fun a ha => by
    show ((ct_ap (pm_h0 L xs) l).2.2.1 a).1 = _
    rw [ct_k_ok L xs l a (by omega)]
  have hl : ∀ a, a < pm_scr → pm_hl (ct_ap (pm_h0 L xs) l) a = (ct_k l a).2 := fun a ha => by
    show ((ct_ap (pm_h0 L xs) l).2.2.1 a).2 = _
    rw [ct_k_ok L xs l a (by omega)]
  have hr : ∀ a j, pm_hr (ct_ap (pm_h0 L xs) l) a j = ct_r l a j := fun a j => ct_r_ok L xs l a j
  change (if ct_n l < pm_scr then ct_go m (pc + 3) ls (.ref (ct_n l) :: st) (.inl (x, pm_N x) :: l) else none) = some r at h
  show ct_ok L xs l (if (ct_ap (pm_h0 L xs) l).1 < pm_scr then pm_go m (pc + 3) ls (.ref (ct_ap (pm_h0 L xs) l).1 :: st) (pm_new (ct_ap (pm_h0 L xs) l) x (pm_N x)) else none) r
  rw [n1]
  by_cases c : ct_n l < pm_scr
  · rw [if_pos c] at h ⊢
    cases h
    rfl
  · rw [if_neg c] at h
    cases h

theorem ct_putfield (L : Nat) (xs : Nat → Int32) {len x y z w m pc : Nat} {ls st : List Value} {l : List ct_E} {r : Unit ⊕ (ct_S ⊕ (ct_S × pm_F))} (t : Nat) (h : ct_st (.putfield t, len, x, y, z, w) m pc ls st l = some r) : ct_ok L xs l (pm_ins (.putfield t, len, x, y, z, w) m pc ls st (ct_ap (pm_h0 L xs) l)) r := by
  have n1 := ct_n_ok L xs l
  have hk : ∀ a, a < pm_scr → pm_hk (ct_ap (pm_h0 L xs) l) a = (ct_k l a).1 := fun a ha => by
    show ((ct_ap (pm_h0 L xs) l).2.2.1 a).1 = _
    rw [ct_k_ok L xs l a (by omega)]
  have hl : ∀ a, a < pm_scr → pm_hl (ct_ap (pm_h0 L xs) l) a = (ct_k l a).2 := fun a ha => by
    show ((ct_ap (pm_h0 L xs) l).2.2.1 a).2 = _
    rw [ct_k_ok L xs l a (by omega)]
  have hr : ∀ a j, pm_hr (ct_ap (pm_h0 L xs) l) a j = ct_r l a j := fun a j => ct_r_ok L xs l a j
  rcases st with _ | ⟨v, st⟩
  · cases h
  · cases v with
    | int v =>
      rcases st with _ | ⟨u, st⟩
      · cases h
      · cases u with
        | ref a =>
          change (if a < ct_n l ∧ a < pm_scr ∧ (ct_k l a).1 = x ∧ z = 0 then ct_go m (pc + 3) ls st (.inr (.inl (a, y, v)) :: l) else none) = some r at h
          show ct_ok L xs l (if a < (ct_ap (pm_h0 L xs) l).1 ∧ pm_hk (ct_ap (pm_h0 L xs) l) a = x ∧ (z = 0 ∨ (z = 2 ∧ (v = 0 ∨ v = 1))) then pm_go m (pc + 3) ls st (pm_setI (ct_ap (pm_h0 L xs) l) a y v) else none) r
          by_cases c : a < ct_n l ∧ a < pm_scr ∧ (ct_k l a).1 = x ∧ z = 0
          · rw [if_pos c] at h
            rw [if_pos ⟨by rw [n1]; exact c.1, by rw [hk a c.2.1]; exact c.2.2.1, Or.inl c.2.2.2⟩]
            cases h
            rfl
          · rw [if_neg c] at h
            cases h
        | _ => cases h
    | ref v =>
      rcases st with _ | ⟨u, st⟩
      · cases h
      · cases u with
        | ref a =>
          change (if a < ct_n l ∧ a < pm_scr ∧ (ct_k l a).1 = x ∧ z = 1 then ct_go m (pc + 3) ls st (.inr (.inr (a, y, v)) :: l) else none) = some r at h
          show ct_ok L xs l (if a < (ct_ap (pm_h0 L xs) l).1 ∧ pm_hk (ct_ap (pm_h0 L xs) l) a = x ∧ z = 1 then pm_go m (pc + 3) ls st (pm_setR (ct_ap (pm_h0 L xs) l) a y (some v)) else none) r
          by_cases c : a < ct_n l ∧ a < pm_scr ∧ (ct_k l a).1 = x ∧ z = 1
          · rw [if_pos c] at h
            rw [if_pos ⟨by rw [n1]; exact c.1, by rw [hk a c.2.1]; exact c.2.2.1, c.2.2.2⟩]
            cases h
            rfl
          · rw [if_neg c] at h
            cases h
        | _ => cases h
    | _ => cases h

theorem ct_getfield (L : Nat) (xs : Nat → Int32) {len x y z w m pc : Nat} {ls st : List Value} {l : List ct_E} {r : Unit ⊕ (ct_S ⊕ (ct_S × pm_F))} (t : Nat) (h : ct_st (.getfield t, len, x, y, z, w) m pc ls st l = some r) : ct_ok L xs l (pm_ins (.getfield t, len, x, y, z, w) m pc ls st (ct_ap (pm_h0 L xs) l)) r := by
  have n1 := ct_n_ok L xs l
  have hk : ∀ a, a < pm_scr → pm_hk (ct_ap (pm_h0 L xs) l) a = (ct_k l a).1 := fun a ha => by
    show ((ct_ap (pm_h0 L xs) l).2.2.1 a).1 = _
    rw [ct_k_ok L xs l a (by omega)]
  have hl : ∀ a, a < pm_scr → pm_hl (ct_ap (pm_h0 L xs) l) a = (ct_k l a).2 := fun a ha => by
    show ((ct_ap (pm_h0 L xs) l).2.2.1 a).2 = _
    rw [ct_k_ok L xs l a (by omega)]
  have hr : ∀ a j, pm_hr (ct_ap (pm_h0 L xs) l) a j = ct_r l a j := fun a j => ct_r_ok L xs l a j
  rcases st with _ | ⟨v, st⟩
  · cases h
  · cases v with
    | ref a =>
      change (if a < ct_n l ∧ a < pm_scr ∧ (ct_k l a).1 = x ∧ z = 1 then ct_go m (pc + 3) ls (va_rf (ct_r l a y) :: st) l else none) = some r at h
      show ct_ok L xs l (if a < (ct_ap (pm_h0 L xs) l).1 ∧ pm_hk (ct_ap (pm_h0 L xs) l) a = x then (if z = 1 then pm_go m (pc + 3) ls (va_rf (pm_hr (ct_ap (pm_h0 L xs) l) a y) :: st) (ct_ap (pm_h0 L xs) l) else pm_go m (pc + 3) ls (.int (pm_hi (ct_ap (pm_h0 L xs) l) a y) :: st) (ct_ap (pm_h0 L xs) l)) else none) r
      by_cases c : a < ct_n l ∧ a < pm_scr ∧ (ct_k l a).1 = x ∧ z = 1
      · rw [if_pos c] at h
        rw [if_pos ⟨by rw [n1]; exact c.1, by rw [hk a c.2.1]; exact c.2.2.1⟩, if_pos c.2.2.2, hr]
        cases h
        rfl
      · rw [if_neg c] at h
        cases h
    | _ => cases h

theorem ct_aastore (L : Nat) (xs : Nat → Int32) {len x y z w m pc : Nat} {ls st : List Value} {l : List ct_E} {r : Unit ⊕ (ct_S ⊕ (ct_S × pm_F))}  (h : ct_st (.aastore, len, x, y, z, w) m pc ls st l = some r) : ct_ok L xs l (pm_ins (.aastore, len, x, y, z, w) m pc ls st (ct_ap (pm_h0 L xs) l)) r := by
  have n1 := ct_n_ok L xs l
  have hk : ∀ a, a < pm_scr → pm_hk (ct_ap (pm_h0 L xs) l) a = (ct_k l a).1 := fun a ha => by
    show ((ct_ap (pm_h0 L xs) l).2.2.1 a).1 = _
    rw [ct_k_ok L xs l a (by omega)]
  have hl : ∀ a, a < pm_scr → pm_hl (ct_ap (pm_h0 L xs) l) a = (ct_k l a).2 := fun a ha => by
    show ((ct_ap (pm_h0 L xs) l).2.2.1 a).2 = _
    rw [ct_k_ok L xs l a (by omega)]
  have hr : ∀ a j, pm_hr (ct_ap (pm_h0 L xs) l) a j = ct_r l a j := fun a j => ct_r_ok L xs l a j
  rcases st with _ | ⟨v, st⟩
  · cases h
  · cases v with
    | ref v =>
      rcases st with _ | ⟨u, st⟩
      · cases h
      · cases u with
        | int j =>
          rcases st with _ | ⟨u, st⟩
          · cases h
          · cases u with
            | ref a =>
              change (if (a < ct_n l ∧ a < pm_scr ∧ v < pm_scr) ∧ (13 ≤ (ct_k l a).1 ∧ (ct_k l a).1 < 16) ∧ (0 ≤ j ∧ j.toNatClampNeg < (ct_k l a).2) ∧ (v < ct_n l ∧ (ct_k l v).1 = pm_eK (ct_k l a).1) then ct_go m (pc + 1) ls st (.inr (.inr (a, j.toNatClampNeg, v)) :: l) else none) = some r at h
              show ct_ok L xs l (if a < (ct_ap (pm_h0 L xs) l).1 ∧ (13 ≤ pm_hk (ct_ap (pm_h0 L xs) l) a ∧ pm_hk (ct_ap (pm_h0 L xs) l) a < 16) ∧ (0 ≤ j ∧ j.toNatClampNeg < pm_hl (ct_ap (pm_h0 L xs) l) a) ∧ (v < (ct_ap (pm_h0 L xs) l).1 ∧ pm_hk (ct_ap (pm_h0 L xs) l) v = pm_eK (pm_hk (ct_ap (pm_h0 L xs) l) a)) then pm_go m (pc + 1) ls st (pm_setR (ct_ap (pm_h0 L xs) l) a j.toNatClampNeg (some v)) else none) r
              by_cases c : (a < ct_n l ∧ a < pm_scr ∧ v < pm_scr) ∧ (13 ≤ (ct_k l a).1 ∧ (ct_k l a).1 < 16) ∧ (0 ≤ j ∧ j.toNatClampNeg < (ct_k l a).2) ∧ (v < ct_n l ∧ (ct_k l v).1 = pm_eK (ct_k l a).1)
              · rw [if_pos c] at h
                rw [n1, hk a c.1.2.1, hl a c.1.2.1, hk v c.1.2.2, if_pos ⟨c.1.1, c.2⟩]
                cases h
                rfl
              · rw [if_neg c] at h
                cases h
            | _ => cases h
        | _ => cases h
    | _ => cases h

theorem ct_special (L : Nat) (xs : Nat → Int32) {len x y z w m pc : Nat} {ls st : List Value} {l : List ct_E} {r : Unit ⊕ (ct_S ⊕ (ct_S × pm_F))} (t : Nat) (h : ct_st (.invokespecial t, len, x, y, z, w) m pc ls st l = some r) : ct_ok L xs l (pm_ins (.invokespecial t, len, x, y, z, w) m pc ls st (ct_ap (pm_h0 L xs) l)) r := by
  have n1 := ct_n_ok L xs l
  have hk : ∀ a, a < pm_scr → pm_hk (ct_ap (pm_h0 L xs) l) a = (ct_k l a).1 := fun a ha => by
    show ((ct_ap (pm_h0 L xs) l).2.2.1 a).1 = _
    rw [ct_k_ok L xs l a (by omega)]
  have hl : ∀ a, a < pm_scr → pm_hl (ct_ap (pm_h0 L xs) l) a = (ct_k l a).2 := fun a ha => by
    show ((ct_ap (pm_h0 L xs) l).2.2.1 a).2 = _
    rw [ct_k_ok L xs l a (by omega)]
  have hr : ∀ a j, pm_hr (ct_ap (pm_h0 L xs) l) a j = ct_r l a j := fun a j => ct_r_ok L xs l a j
  unfold ct_st at h
  dsimp only at h
  show ct_ok L xs l (if z = 3 then pm_oinit m (pc + 3) ls st (ct_ap (pm_h0 L xs) l) else pm_call x y 2 m (pc + 3) ls st (ct_ap (pm_h0 L xs) l)) r
  by_cases hz : z = 3
  · rw [if_pos hz] at h ⊢
    rcases st with _ | ⟨v, st⟩
    · cases h
    · cases v with
      | ref a =>
        change (if (st.map Value.category).sum ≤ 8 then ct_go m (pc + 3) ls st l else none) = some r at h
        show ct_ok L xs l (if (st.map Value.category).sum ≤ 8 then pm_go m (pc + 3) ls st (ct_ap (pm_h0 L xs) l) else none) r
        by_cases c : (st.map Value.category).sum ≤ 8
        · rw [if_pos c] at h ⊢
          cases h
          rfl
        · rw [if_neg c] at h
          cases h
      | _ => cases h
  · rw [if_neg hz] at h ⊢
    unfold ct_call at h
    unfold pm_call
    by_cases c : y ≤ st.length ∧ ((st.take y).all fun v => v.category == 1) = true ∧ pm_recv x 2 (st.take y).reverse (0, 0, (fun _ => (0, 0)), (fun _ _ => 0), (fun _ _ => none)) = true ∧ ((st.drop y).map Value.category).sum ≤ 8
    · rw [if_pos c] at h
      have c3 : pm_recv x 2 (st.take y).reverse (ct_ap (pm_h0 L xs) l) = true := c.2.2.1
      rw [if_pos ⟨c.1, c.2.1, c3, c.2.2.2⟩]
      cases h
      rfl
    · rw [if_neg c] at h
      cases h

theorem ct_return (L : Nat) (xs : Nat → Int32) {len x y z w m pc : Nat} {ls st : List Value} {l : List ct_E} {r : Unit ⊕ (ct_S ⊕ (ct_S × pm_F))}  (h : ct_st (.return_, len, x, y, z, w) m pc ls st l = some r) : ct_ok L xs l (pm_ins (.return_, len, x, y, z, w) m pc ls st (ct_ap (pm_h0 L xs) l)) r := by
  have n1 := ct_n_ok L xs l
  have hk : ∀ a, a < pm_scr → pm_hk (ct_ap (pm_h0 L xs) l) a = (ct_k l a).1 := fun a ha => by
    show ((ct_ap (pm_h0 L xs) l).2.2.1 a).1 = _
    rw [ct_k_ok L xs l a (by omega)]
  have hl : ∀ a, a < pm_scr → pm_hl (ct_ap (pm_h0 L xs) l) a = (ct_k l a).2 := fun a ha => by
    show ((ct_ap (pm_h0 L xs) l).2.2.1 a).2 = _
    rw [ct_k_ok L xs l a (by omega)]
  have hr : ∀ a j, pm_hr (ct_ap (pm_h0 L xs) l) a j = ct_r l a j := fun a j => ct_r_ok L xs l a j
  rcases st with _ | ⟨v, st⟩
  · cases h
    rfl
  · cases h

theorem ct_st_ok (L : Nat) (xs : Nat → Int32) {i : pm_I} {m pc : Nat} {ls st : List Value} {l : List ct_E} {r} (h : ct_st i m pc ls st l = some r) : ct_ok L xs l (pm_ins i m pc ls st (ct_ap (pm_h0 L xs) l)) r := by
  obtain ⟨ins, len, x, y, z, w⟩ := i
  cases ins with
  | aload_n k => exact ct_aload L xs k h
  | iload_n k => exact ct_iload L xs k h
  | istore_n k => exact ct_istore L xs k h
  | iinc k n => exact ct_iinc L xs k n h
  | iconst n => exact ct_iconst L xs n h
  | bipush n => exact ct_bipush L xs n h
  | sipush n => exact ct_sipush L xs n h
  | goto n => exact ct_goto L xs n h
  | if_icmp c n =>
    cases c with
    | ge => exact ct_icmp L xs n h
    | _ => cases h
  | dup => exact ct_dup L xs h
  | newarray t => exact ct_newarray L xs t h
  | anewarray t => exact ct_anewarray L xs t h
  | new t => exact ct_new L xs t h
  | putfield t => exact ct_putfield L xs t h
  | getfield t => exact ct_getfield L xs t h
  | aastore => exact ct_aastore L xs h
  | invokespecial t => exact ct_special L xs t h
  | return_ => exact ct_return L xs h
  | _ => cases h
def ct_x : Nat → ct_S → Option (List ct_E)
  | 0, _ => none
  | f + 1, s => match pm_code s.1 s.2.1 with
    | none => none
    | some i => match ct_st i s.1 s.2.1 s.2.2.1 s.2.2.2.1 s.2.2.2.2 with
      | none => none
      | some (.inl _) => some s.2.2.2.2
      | some (.inr (.inl s')) => ct_x f s'
      | some (.inr (.inr (s1, fr))) => match ct_x f s1 with
        | none => none
        | some l' => ct_x f (fr.1, fr.2.1, fr.2.2.1, fr.2.2.2, l')
theorem ct_sound (L : Nat) (xs : Nat → Int32) : ∀ (f : Nat) (s : ct_S) (l' : List ct_E), ct_x f s = some l' → pm_D (s.1, s.2.1, s.2.2.1, s.2.2.2.1, ct_ap (pm_h0 L xs) s.2.2.2.2) = some (none, ct_ap (pm_h0 L xs) l')
  | 0, s, l', h => by cases h
  | f + 1, (m, pc, ls, st, l), l', h => by
    rw [ct_x] at h
    dsimp only at h ⊢
    cases hc : pm_code m pc with
    | none => rw [hc] at h; cases h
    | some i =>
      rw [hc] at h
      dsimp only at h
      cases hs : ct_st i m pc ls st l with
      | none => rw [hs] at h; cases h
      | some r =>
        rw [hs] at h
        have ok := ct_st_ok L xs hs
        rcases r with u | ⟨m', pc', ls', st', l2⟩ | ⟨⟨m', pc', ls', st', l2⟩, fr⟩
        · cases h
          exact pm_D_ret (by rw [pm_st_of hc]; exact ok)
        · have := ct_sound L xs f _ l' h
          rw [pm_D_go (by rw [pm_st_of hc]; exact ok)]
          exact this
        · dsimp only at h
          cases h2 : ct_x f (m', pc', ls', st', l2) with
          | none => rw [h2] at h; cases h
          | some l3 =>
            rw [h2] at h
            have i1 := ct_sound L xs f _ l3 h2
            have i2 := ct_sound L xs f _ l' h
            rw [pm_D_call (by rw [pm_st_of hc]; exact ok)]
            dsimp only at i1
            rw [i1]
            exact i2
def ct_1 : List ct_E := (ct_x 5000 (74, 0, [.ref 0], [], [.inl (8, 5)])).getD []
def ct_2 : List ct_E := (ct_x 5000 (105, 0, [.ref 190], [], .inl (9, 32) :: ct_1)).getD []
theorem ct_c1 : (ct_x 5000 (74, 0, [.ref 0], [], [.inl (8, 5)])).isSome = true := by decide +kernel
theorem ct_c2 : (ct_x 5000 (105, 0, [.ref 190], [], .inl (9, 32) :: ct_1)).isSome = true := by decide +kernel
theorem ct_c3 : ct_n ct_1 = 190 ∧ ct_n ct_2 = 212 ∧ ct_s ct_2 = 12817 ∧ ct_ns ct_2 = true := by decide +kernel
theorem ct_c4 : ∀ a, a < 212 → ct_k ct_2 a = pm_cl.getD a (99, 0) := by decide +kernel
def ct_W : Nat → Nat := fun i => 5 + 2 * i
/-- all references lie within the cells, their slots below 32 -/
def ct_b : List ct_E → Bool
  | [] => true
  | .inr (.inr (a, j, _)) :: l => decide (a < 212) && decide (j < 32) && ct_b l
  | _ :: l => ct_b l
theorem ct_c5 : ct_b ct_2 = true := by decide +kernel
theorem ct_b_ok : ∀ (l : List ct_E) (a j : Nat), ct_b l = true → (212 ≤ a ∨ 32 ≤ j) → ct_r l a j = none
  | [], a, j, _, _ => rfl
  | .inl q :: l, a, j, h, c => by
    show (if a = ct_n l then none else ct_r l a j) = none
    rw [ct_b_ok l a j h c]
    split <;> rfl
  | .inr (.inl q) :: l, a, j, h, c => ct_b_ok l a j h c
  | .inr (.inr (a', j', b)) :: l, a, j, h, c => by
    have h1 := Bool.and_eq_true_iff.mp h
    have h2 := Bool.and_eq_true_iff.mp h1.1
    have h3 : a' < 212 := of_decide_eq_true h2.1
    have h4 : j' < 32 := of_decide_eq_true h2.2
    show (if a = a' ∧ j = j' then some b else ct_r l a j) = none
    rw [if_neg (by omega)]
    exact ct_b_ok l a j h1.2 c
theorem ct_c6 : ∀ a, a < 212 → pm_N (pm_kd a) ≤ 32 ∨ 10 ≤ pm_kd a := by decide +kernel
theorem ct_c7 : ∀ a, a < 212 → pm_kd a < 13 ∨ pm_ln a ≤ 20 := by decide +kernel
