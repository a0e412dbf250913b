/-! the pure machine: a heap of typed cells, one frame at a time, calls as big steps -/
/-- cells so far, slots so far, kind and length of each cell, what its int slots hold, what its reference slots hold -/
abbrev pm_H : Type := Nat × Nat × (Nat → Nat × Nat) × (Nat → Nat → Int32) × (Nat → Nat → Option Nat)
def pm_hn (h : pm_H) : Nat := h.1
def pm_hs (h : pm_H) : Nat := h.2.1
def pm_hk (h : pm_H) (a : Nat) : Nat := (h.2.2.1 a).1
def pm_hl (h : pm_H) (a : Nat) : Nat := (h.2.2.1 a).2
def pm_hi (h : pm_H) (a j : Nat) : Int32 := h.2.2.2.1 a j
def pm_hr (h : pm_H) (a j : Nat) : Option Nat := h.2.2.2.2 a j
def pm_setI (h : pm_H) (a j : Nat) (v : Int32) : pm_H := (h.1, h.2.1, h.2.2.1, (fun b => if b = a then upd (h.2.2.2.1 a) j v else h.2.2.2.1 b), h.2.2.2.2)
def pm_setR (h : pm_H) (a j : Nat) (v : Option Nat) : pm_H := (h.1, h.2.1, h.2.2.1, h.2.2.2.1, (fun b => if b = a then va_up (h.2.2.2.2 a) j v else h.2.2.2.2 b))
def pm_cpy (h : pm_H) (s d sp dp n : Nat) : pm_H := (h.1, h.2.1, h.2.2.1, (fun b => if b = d then va_cpy (h.2.2.2.1 s) (h.2.2.2.1 d) sp dp n else h.2.2.2.1 b), h.2.2.2.2)
def pm_new (h : pm_H) (k len : Nat) : pm_H := (h.1 + 1, h.2.1 + len, (fun b => if b = h.1 then (k, len) else h.2.2.1 b), (fun b => if b = h.1 then (fun _ => 0) else h.2.2.2.1 b), (fun b => if b = h.1 then (fun _ => none) else h.2.2.2.2 b))
def pm_scr : Nat := 1000000
def pm_law : Nat := 171
abbrev pm_S : Type := Nat × Nat × List Value × List Value × pm_H
abbrev pm_R : Type := Option Value × pm_H
abbrev pm_F : Type := Nat × Nat × List Value × List Value
abbrev pm_O : Type := Option (pm_R ⊕ (pm_S ⊕ (pm_S × pm_F)))
def pm_go (m pc : Nat) (ls st : List Value) (h : pm_H) : pm_O := some (.inr (.inl (m, pc, ls, st, h)))
/-- the arrays that method m may read -/
def pm_rd (m : Nat) (h : pm_H) (a : Nat) : Prop := a < h.1 ∨ (a = pm_scr ∧ m = pm_law)
theorem pm_rd_dec (m : Nat) (h : pm_H) (a : Nat) : pm_rd m h a ↔ (decide (a < h.1) || (decide (a = pm_scr) && decide (m = pm_law))) = true := by simp [pm_rd]
def pm_rdb (m : Nat) (h : pm_H) (a : Nat) : Bool := decide (a < h.1) || (decide (a = pm_scr) && decide (m = pm_law))
def pm_in (i : Int32) (n : Nat) : Prop := 0 ≤ i ∧ i.toNatClampNeg < n
def pm_aload (k m pc : Nat) (ls st : List Value) (h : pm_H) : pm_O := match ls[k]? with
  | some (.ref a) => pm_go m pc ls (.ref a :: st) h
  | _ => none
def pm_iload (k m pc : Nat) (ls st : List Value) (h : pm_H) : pm_O := match ls[k]? with
  | some (.int a) => pm_go m pc ls (.int a :: st) h
  | _ => none
def pm_astore (k m pc : Nat) (ls st : List Value) (h : pm_H) : pm_O := match st with
  | .ref a :: st => if k < ls.length then pm_go m pc (ls.set k (.ref a)) st h else none
  | _ => none
def pm_istore (k m pc : Nat) (ls st : List Value) (h : pm_H) : pm_O := match st with
  | .int a :: st => if k < ls.length then pm_go m pc (ls.set k (.int a)) st h else none
  | _ => none
def pm_iinc (k : Nat) (n : Int) (m pc : Nat) (ls st : List Value) (h : pm_H) : pm_O := match ls[k]? with
  | some (.int a) => if k < ls.length then pm_go m pc (ls.set k (.int (a + Int32.ofInt n))) st h else none
  | _ => none
/-- two ints by an operation -/
def pm_op2 (f : Int32 → Int32 → Int32) (m pc : Nat) (ls st : List Value) (h : pm_H) : pm_O := match st with
  | .int y :: .int x :: st => pm_go m pc ls (.int (f x y) :: st) h
  | _ => none
def pm_irem (m pc : Nat) (ls st : List Value) (h : pm_H) : pm_O := match st with
  | .int y :: .int x :: st => if y = 0 then none else pm_go m pc ls (.int (x - x / y * y) :: st) h
  | _ => none
def pm_i2c (m pc : Nat) (ls st : List Value) (h : pm_H) : pm_O := match st with
  | .int x :: st => pm_go m pc ls (.int (x.toUInt32 % 65536).toInt32 :: st) h
  | _ => none
def pm_dup (m pc : Nat) (ls st : List Value) (h : pm_H) : pm_O := match st with
  | .ref x :: st => pm_go m pc ls (.ref x :: .ref x :: st) h
  | .int x :: st => pm_go m pc ls (.int x :: .int x :: st) h
  | _ => none
def pm_dup2 (m pc : Nat) (ls st : List Value) (h : pm_H) : pm_O := match st with
  | .int y :: .ref x :: st => pm_go m pc ls (.int y :: .ref x :: .int y :: .ref x :: st) h
  | _ => none
def pm_cmp (c : ClassFile.Cond) (x y : Int32) (m tg pc : Nat) (ls st : List Value) (h : pm_H) : pm_O := match c with
  | .eq => if x = y then pm_go m tg ls st h else pm_go m pc ls st h
  | .ne => if x = y then pm_go m pc ls st h else pm_go m tg ls st h
  | .lt => if x < y then pm_go m tg ls st h else pm_go m pc ls st h
  | .ge => if x < y then pm_go m pc ls st h else pm_go m tg ls st h
  | .gt => if y < x then pm_go m tg ls st h else pm_go m pc ls st h
  | .le => if y < x then pm_go m pc ls st h else pm_go m tg ls st h
def pm_icmp (c : ClassFile.Cond) (m tg pc : Nat) (ls st : List Value) (h : pm_H) : pm_O := match st with
  | .int y :: .int x :: st => pm_cmp c x y m tg pc ls st h
  | _ => none
def pm_ifc (c : ClassFile.Cond) (m tg pc : Nat) (ls st : List Value) (h : pm_H) : pm_O := match st with
  | .int x :: st => pm_cmp c x 0 m tg pc ls st h
  | _ => none
def pm_tsw (dflt lo hi : Int) (offs : Array Int) (m pc : Nat) (ls st : List Value) (h : pm_H) : pm_O := match st with
  | .int x :: st => if x.toInt < lo ∨ hi < x.toInt then pm_go m ((pc : Int) + dflt).toNat ls st h else match offs[(x.toInt - lo).toNat]? with
    | some off => pm_go m ((pc : Int) + off).toNat ls st h
    | none => none
  | _ => none
def pm_getf (x y z m pc : Nat) (ls st : List Value) (h : pm_H) : pm_O := match st with
  | .ref a :: st => if a < h.1 ∧ pm_hk h a = x then (if z = 1 then pm_go m pc ls (va_rf (pm_hr h a y) :: st) h else pm_go m pc ls (.int (pm_hi h a y) :: st) h) else none
  | _ => none
def pm_putf (x y z m pc : Nat) (ls st : List Value) (h : pm_H) : pm_O := match st with
  | .int v :: .ref a :: st => if a < h.1 ∧ pm_hk h a = x ∧ (z = 0 ∨ (z = 2 ∧ (v = 0 ∨ v = 1))) then pm_go m pc ls st (pm_setI h a y v) else none
  | .ref v :: .ref a :: st => if a < h.1 ∧ pm_hk h a = x ∧ z = 1 then pm_go m pc ls st (pm_setR h a y (some v)) else none
  | _ => none
/-- a number out of an array of kind k -/
def pm_ald (k m pc : Nat) (ls st : List Value) (h : pm_H) : pm_O := match st with
  | .int i :: .ref a :: st => if pm_rdb m h a = true ∧ pm_hk h a = k ∧ (0 ≤ i ∧ i.toNatClampNeg < pm_hl h a) then pm_go m pc ls (.int (pm_hi h a i.toNatClampNeg) :: st) h else none
  | _ => none
def pm_ast (k m pc : Nat) (ls st : List Value) (h : pm_H) : pm_O := match st with
  | .int v :: .int i :: .ref a :: st => if a < h.1 ∧ pm_hk h a = k ∧ (0 ≤ i ∧ i.toNatClampNeg < pm_hl h a) then pm_go m pc ls st (pm_setI h a i.toNatClampNeg (vp_nar (pm_ety k) v)) else none
  | _ => none
def pm_aald (m pc : Nat) (ls st : List Value) (h : pm_H) : pm_O := match st with
  | .int i :: .ref a :: st => if a < h.1 ∧ (13 ≤ pm_hk h a ∧ pm_hk h a < 16) ∧ (0 ≤ i ∧ i.toNatClampNeg < pm_hl h a) then pm_go m pc ls (va_rf (pm_hr h a i.toNatClampNeg) :: st) h else none
  | _ => none
def pm_aast (m pc : Nat) (ls st : List Value) (h : pm_H) : pm_O := match st with
  | .ref v :: .int i :: .ref a :: st => if a < h.1 ∧ (13 ≤ pm_hk h a ∧ pm_hk h a < 16) ∧ (0 ≤ i ∧ i.toNatClampNeg < pm_hl h a) ∧ (v < h.1 ∧ pm_hk h v = pm_eK (pm_hk h a)) then pm_go m pc ls st (pm_setR h a i.toNatClampNeg (some v)) else none
  | _ => none
def pm_alen (m pc : Nat) (ls st : List Value) (h : pm_H) : pm_O := match st with
  | .ref a :: st => if pm_rdb m h a = true ∧ (10 ≤ pm_hk h a ∧ pm_hk h a < 16) then pm_go m pc ls (.int (Int32.ofNat (pm_hl h a)) :: st) h else none
  | _ => none
def pm_newa (k m pc : Nat) (ls st : List Value) (h : pm_H) : pm_O := match st with
  | .int n :: st => if 0 ≤ n ∧ n.toNatClampNeg ≤ 60000 ∧ h.1 < pm_scr then pm_go m pc ls (.ref h.1 :: st) (pm_new h k n.toNatClampNeg) else none
  | _ => none
def pm_newo (k m pc : Nat) (ls st : List Value) (h : pm_H) : pm_O := if h.1 < pm_scr then pm_go m pc ls (.ref h.1 :: st) (pm_new h k (pm_N k)) else none
def pm_oinit (m pc : Nat) (ls st : List Value) (h : pm_H) : pm_O := match st with
  | .ref _ :: st => if (st.map Value.category).sum ≤ 8 then pm_go m pc ls st h else none
  | _ => none
def pm_acopy (m pc : Nat) (ls st : List Value) (h : pm_H) : pm_O := match st with
  | .int n :: .int dp :: .ref d :: .int sp :: .ref s :: st => if s < h.1 ∧ d < h.1 ∧ pm_hk h s = 11 ∧ pm_hk h d = 11 ∧ 0 ≤ sp ∧ 0 ≤ dp ∧ 0 ≤ n ∧ sp.toNatClampNeg + n.toNatClampNeg ≤ pm_hl h s ∧ dp.toNatClampNeg + n.toNatClampNeg ≤ pm_hl h d ∧ (st.map Value.category).sum ≤ 8 then pm_go m pc ls st (pm_cpy h s d sp.toNatClampNeg dp.toNatClampNeg n.toNatClampNeg) else none
  | _ => none
def pm_mm (z m pc : Nat) (ls st : List Value) (h : pm_H) : pm_O := match st with
  | .int y :: .int x :: st => if (st.map Value.category).sum ≤ 8 then pm_go m pc ls (.int (if z = 5 then (if x < y then y else x) else (if y < x then y else x)) :: st) h else none
  | _ => none
/-- the receiver of a call, where the call has one that is asked for its class -/
def pm_recv (x z : Nat) (as : List Value) (h : pm_H) : Bool := match z with
  | 1 => true
  | 2 => match as with
    | .ref _ :: _ => true
    | _ => false
  | _ => match as with
    | .ref b :: _ => decide (b < h.1) && decide (pm_hk h b = pm_mk x)
    | _ => false
def pm_call (x y z m pc : Nat) (ls st : List Value) (h : pm_H) : pm_O :=
  if y ≤ st.length ∧ ((st.take y).all fun v => v.category == 1) = true ∧ pm_recv x z (st.take y).reverse h = true ∧ ((st.drop y).map Value.category).sum ≤ 8 then
    some (.inr (.inr ((x, 0, (st.take y).reverse ++ List.replicate (pm_ml x - y) Value.null, [], h), (m, pc, ls, st.drop y))))
  else none
def pm_iret (x : Nat) (st : List Value) (h : pm_H) : pm_O := match st with
  | [.int v] => if x = 0 ∨ v = 0 ∨ v = 1 then some (.inl (some (.int v), h)) else none
  | _ => none
def pm_vret (st : List Value) (h : pm_H) : pm_O := match st with
  | [] => some (.inl (none, h))
  | _ => none
def pm_ins (i : pm_I) (m pc : Nat) (ls st : List Value) (h : pm_H) : pm_O := match i.1 with
  | .aload_n k => pm_aload k.val m (pc + 1) ls st h
  | .aload k => pm_aload k m (pc + 2) ls st h
  | .iload_n k => pm_iload k.val m (pc + 1) ls st h
  | .iload k => pm_iload k m (pc + 2) ls st h
  | .astore_n k => pm_astore k.val m (pc + 1) ls st h
  | .astore k => pm_astore k m (pc + 2) ls st h
  | .istore_n k => pm_istore k.val m (pc + 1) ls st h
  | .istore k => pm_istore k m (pc + 2) ls st h
  | .iinc k n => pm_iinc k n m (pc + 3) ls st h
  | .iconst n => pm_go m (pc + 1) ls (.int (Int32.ofInt n) :: st) h
  | .bipush n => pm_go m (pc + 2) ls (.int (Int8.ofInt n).toInt32 :: st) h
  | .sipush n => pm_go m (pc + 3) ls (.int (Int16.ofInt n).toInt32 :: st) h
  | .ldc _ => pm_go m (pc + 2) ls (.int (Int32.ofNat i.2.2.1) :: st) h
  | .iadd => pm_op2 (· + ·) m (pc + 1) ls st h
  | .isub => pm_op2 (· - ·) m (pc + 1) ls st h
  | .imul => pm_op2 (· * ·) m (pc + 1) ls st h
  | .iand => pm_op2 (· &&& ·) m (pc + 1) ls st h
  | .irem => pm_irem m (pc + 1) ls st h
  | .i2c => pm_i2c m (pc + 1) ls st h
  | .dup => pm_dup m (pc + 1) ls st h
  | .dup2 => pm_dup2 m (pc + 1) ls st h
  | .goto _ => pm_go m i.2.2.1 ls st h
  | .if_icmp c _ => pm_icmp c m i.2.2.1 (pc + 3) ls st h
  | .ifCond c _ => pm_ifc c m i.2.2.1 (pc + 3) ls st h
  | .tableswitch dflt lo hi offs => pm_tsw dflt lo hi offs m pc ls st h
  | .getfield _ => pm_getf i.2.2.1 i.2.2.2.1 i.2.2.2.2.1 m (pc + 3) ls st h
  | .putfield _ => pm_putf i.2.2.1 i.2.2.2.1 i.2.2.2.2.1 m (pc + 3) ls st h
  | .iaload => pm_ald 11 m (pc + 1) ls st h
  | .baload => pm_ald 12 m (pc + 1) ls st h
  | .caload => pm_ald 10 m (pc + 1) ls st h
  | .iastore => pm_ast 11 m (pc + 1) ls st h
  | .bastore => pm_ast 12 m (pc + 1) ls st h
  | .castore => pm_ast 10 m (pc + 1) ls st h
  | .aaload => pm_aald m (pc + 1) ls st h
  | .aastore => pm_aast m (pc + 1) ls st h
  | .arraylength => pm_alen m (pc + 1) ls st h
  | .newarray _ => pm_newa i.2.2.1 m (pc + 2) ls st h
  | .anewarray _ => pm_newa i.2.2.1 m (pc + 3) ls st h
  | .new _ => pm_newo i.2.2.1 m (pc + 3) ls st h
  | .invokevirtual _ => pm_call i.2.2.1 i.2.2.2.1 0 m (pc + 3) ls st h
  | .invokestatic _ => if i.2.2.2.2.1 = 4 then pm_acopy m (pc + 3) ls st h else if i.2.2.2.2.1 = 5 ∨ i.2.2.2.2.1 = 6 then pm_mm i.2.2.2.2.1 m (pc + 3) ls st h else pm_call i.2.2.1 i.2.2.2.1 1 m (pc + 3) ls st h
  | .invokespecial _ => if i.2.2.2.2.1 = 3 then pm_oinit m (pc + 3) ls st h else pm_call i.2.2.1 i.2.2.2.1 2 m (pc + 3) ls st h
  | .ireturn => pm_iret i.2.2.1 st h
  | .return_ => pm_vret st h
  | _ => none
def pm_st (s : pm_S) : pm_O := match pm_code s.1 s.2.1 with
  | none => none
  | some i => pm_ins i s.1 s.2.1 s.2.2.1 s.2.2.2.1 s.2.2.2.2
def pm_ex : Nat → pm_S → Option pm_R
  | 0, _ => none
  | f + 1, s => match pm_st s with
    | none => none
    | some (.inl r) => some r
    | some (.inr (.inl s')) => pm_ex f s'
    | some (.inr (.inr (s1, fr))) => match pm_ex f s1 with
      | none => none
      | some (v, h') => pm_ex f (fr.1, fr.2.1, fr.2.2.1, v.toList ++ fr.2.2.2, h')
/-- what is checked of an instruction once and for all -/
def pm_wl : Nat → List Cond := fun k => match k with
  | 0 => k2_sels lw_privs
  | 1 => tables_1_1
  | 2 => tables_1_2
  | 3 => tables_1_3
  | 4 => tables_1_4
  | _ => tables_1_5
def pm_w (i : Nat) (w : Cond) : Bool := decide ((pm_wl (i / 1000))[i % 1000]? = some w)
def pm_own (m : Nat) : String := (pm_y m).cls
def pm_chkF (m idx x y z w : Nat) : Bool := decide (x < 10) && decide (y < pm_N x) && decide (z = pm_fz x y) && (if w < 10000 then pm_w w (.fieldLink (pm_own m) idx (pm_T x y).1 (pm_T x y).2.1 (pm_T x y).2.2.1) else pm_w (w - 10000) (.fieldLinkNest (pm_own m) idx (pm_T x y).1 (pm_T x y).2.1 (pm_T x y).2.2.1 "OpticalTelegraph"))
def pm_chkP (m x y w : Nat) : Bool := if (pm_T x y).2.2.2 = true then decide ((pm_y m).name = "<init>") && decide ((pm_T x y).1 = pm_own m) && decide (w < 10000) else true
/-- of a call: the callee's number x, its arguments y, the way z, the link's place w -/
def pm_chkC (m idx x y z w : Nat) : Bool :=
  decide (x < 172) && decide (y = pm_na x) && decide (y ≤ pm_ml x) && decide ((parseMethodDescriptor (pm_y x).desc).map (fun d => d.parameters.length) = some (if z = 1 then y else y - 1)) && decide (z = 1 ∨ 1 ≤ y) &&
  (if w < 10000 then pm_w w (.methodLink (pm_own m) idx (pm_y x)) else decide (z ≠ 0) && pm_w (w - 10000) (.methodLinkNest (pm_own m) idx (pm_y x) "OpticalTelegraph")) &&
  (if z = 1 then pm_w (pm_ip x) (.static (pm_y x)) else pm_w (pm_ip x) (.instanceMethod (pm_y x))) &&
  (if z = 0 then pm_w (pm_sp x) (.selects (pm_y x).cls (pm_y x) (pm_y x)) && decide (pm_mk x < 10) && decide ((pm_y x).cls = pm_C (pm_mk x)) else true) &&
  (if z = 2 then decide ((pm_y x).name = "<init>") && decide (pm_ret x = none) else true) &&
  pm_w (pm_ip0 x) (.initialized (pm_y x).cls) && pm_w (pm_cp x) (.code (pm_y x) (pm_b x) (pm_ml x) (pm_ret x)) &&
  decide ((pm_y x).cls ≠ "java/lang/invoke/MethodHandle" ∧ (pm_y x).cls ≠ "java/lang/invoke/VarHandle") && plainName (pm_y x).cls &&
  decide (pm_nf x + 1 ≤ pm_nf m) && decide (8 + (pm_ml x + 11) + pm_nl x ≤ pm_nl m)
def pm_chk (m : Nat) (q : Nat × pm_I) : Bool :=
  decide (decode (pm_b m) q.1 = .ok (q.2.1, q.2.2.1)) && (match q.2.1 with
  | .aload_n k => decide (q.2.2.1 = 1)
  | .aload k => decide (q.2.2.1 = 2)
  | .iload_n k => decide (q.2.2.1 = 1)
  | .iload k => decide (q.2.2.1 = 2)
  | .astore_n k => decide (q.2.2.1 = 1)
  | .astore k => decide (q.2.2.1 = 2)
  | .istore_n k => decide (q.2.2.1 = 1)
  | .istore k => decide (q.2.2.1 = 2)
  | .iinc k n => decide (q.2.2.1 = 3)
  | .iconst n => decide (q.2.2.1 = 1)
  | .bipush n => decide (q.2.2.1 = 2)
  | .sipush n => decide (q.2.2.1 = 3)
  | .ldc idx => decide (q.2.2.1 = 2) && pm_w q.2.2.2.2.2.2 (.constant (pm_own m) idx (Int32.ofNat q.2.2.2.1))
  | .goto off => decide (q.2.2.1 = 3) && decide ((q.1 : Int) + off = (q.2.2.2.1 : Int))
  | .if_icmp _ off => decide (q.2.2.1 = 3) && decide ((q.1 : Int) + off = (q.2.2.2.1 : Int))
  | .ifCond _ off => decide (q.2.2.1 = 3) && decide ((q.1 : Int) + off = (q.2.2.2.1 : Int))
  | .tableswitch dflt lo hi offs => decide (0 ≤ (q.1 : Int) + dflt) && offs.all (fun o => decide (0 ≤ (q.1 : Int) + o))
  | .getfield idx => decide (q.2.2.1 = 3) && pm_chkF m idx q.2.2.2.1 q.2.2.2.2.1 q.2.2.2.2.2.1 q.2.2.2.2.2.2
  | .putfield idx => decide (q.2.2.1 = 3) && pm_chkF m idx q.2.2.2.1 q.2.2.2.2.1 q.2.2.2.2.2.1 q.2.2.2.2.2.2 && pm_chkP m q.2.2.2.1 q.2.2.2.2.1 q.2.2.2.2.2.2
  | .newarray at_ => decide (q.2.2.1 = 2) && decide (10 ≤ q.2.2.2.1) && decide (q.2.2.2.1 < 13) && decide (newarray.typeOf at_ = pm_ety q.2.2.2.1)
  | .anewarray idx => decide (q.2.2.1 = 3) && decide (13 ≤ q.2.2.2.1) && decide (q.2.2.2.1 < 16) && pm_w q.2.2.2.2.2.2 (.classLink (pm_own m) idx (pm_eC q.2.2.2.1))
  | .new idx => decide (q.2.2.1 = 3) && decide (q.2.2.2.1 < 10) && pm_w q.2.2.2.2.2.2 (.classLink (pm_own m) idx (pm_C q.2.2.2.1))
  | .invokevirtual idx => decide (q.2.2.1 = 3) && pm_chkC m idx q.2.2.2.1 q.2.2.2.2.1 0 q.2.2.2.2.2.2
  | .invokestatic idx => decide (q.2.2.1 = 3) && (if q.2.2.2.2.2.1 = 4 then pm_w q.2.2.2.2.2.2 (.methodLink (pm_own m) idx arraycopyName) && decide (1 ≤ pm_nf m) && decide (26 ≤ pm_nl m) else if q.2.2.2.2.2.1 = 5 ∨ q.2.2.2.2.2.1 = 6 then pm_w q.2.2.2.2.2.2 (.methodLink (pm_own m) idx (if q.2.2.2.2.2.1 = 5 then Lib.Math.max.name else Lib.Math.min.name)) && decide (1 ≤ pm_nf m) && decide (21 ≤ pm_nl m) else pm_chkC m idx q.2.2.2.1 q.2.2.2.2.1 1 q.2.2.2.2.2.2)
  | .invokespecial idx => decide (q.2.2.1 = 3) && (if q.2.2.2.2.2.1 = 3 then pm_w q.2.2.2.2.2.2 (.methodLink (pm_own m) idx objectInit) && decide (1 ≤ pm_nf m) && decide (20 ≤ pm_nl m) else pm_chkC m idx q.2.2.2.1 q.2.2.2.2.1 2 q.2.2.2.2.2.2)
  | .ireturn => decide (q.2.2.1 = 1) && decide (pm_ret m = if q.2.2.2.1 = 0 then some .int else some .boolean) && decide (q.2.2.2.1 = 0 ∨ q.2.2.2.1 = 1)
  | .return_ => decide (q.2.2.1 = 1) && decide (pm_ret m = none)
  | _ => decide (q.2.2.1 = 1))
theorem pm_wl_mem (k : Nat) {w : Cond} (h : w ∈ pm_wl k) : w ∈ lw_tbl := by
  have e : lw_tbl = k2_sels lw_privs ++ (tables_1_1 ++ (tables_1_2 ++ (tables_1_3 ++ (tables_1_4 ++ tables_1_5)))) := rfl
  rw [e]
  simp only [List.mem_append]
  unfold pm_wl at h
  split at h
  · exact Or.inl h
  · exact Or.inr (Or.inl h)
  · exact Or.inr (Or.inr (Or.inl h))
  · exact Or.inr (Or.inr (Or.inr (Or.inl h)))
  · exact Or.inr (Or.inr (Or.inr (Or.inr (Or.inl h))))
  · exact Or.inr (Or.inr (Or.inr (Or.inr (Or.inr h))))
theorem pm_w_mem {i : Nat} {w : Cond} (h : pm_w i w = true) : w ∈ lw_tbl := pm_wl_mem _ (List.mem_of_getElem? (of_decide_eq_true h))
