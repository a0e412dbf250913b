/-! the checks joined -/
def pm_good : Nat → List (List (Nat × pm_I)) → Prop
  | _, [] => True
  | n, L :: Ls => L.all (pm_chk n) = true ∧ pm_good (n + 1) Ls
theorem pm_good_app : ∀ (a b : List (List (Nat × pm_I))) (n : Nat), pm_good n a → pm_good (n + a.length) b → pm_good n (a ++ b)
  | [], b, n, _, h => h
  | L :: a, b, n, h1, h2 => ⟨h1.1, pm_good_app a b (n + 1) h1.2 (by rw [show n + 1 + a.length = n + (L :: a).length by simp; omega]; exact h2)⟩
theorem pm_good_at : ∀ (a : List (List (Nat × pm_I))) (n k : Nat), pm_good n a → (a.getD k []).all (pm_chk (n + k)) = true
  | [], _, _, _ => rfl
  | L :: a, n, 0, h => h.1
  | L :: a, n, k + 1, h => by
    have := pm_good_at a (n + 1) k h.2
    rwa [show n + 1 + k = n + (k + 1) by omega] at this
theorem pm_gd0 : pm_good 0 pm_ks0 := ⟨pm_c0, ⟨pm_c1, ⟨pm_c2, ⟨pm_c3, ⟨pm_c4, ⟨pm_c5, ⟨pm_c6, ⟨pm_c7, ⟨pm_c8, ⟨pm_c9, ⟨pm_c10, ⟨pm_c11, ⟨pm_c12, ⟨pm_c13, ⟨pm_c14, ⟨pm_c15, ⟨pm_c16, ⟨pm_c17, ⟨pm_c18, ⟨pm_c19, ⟨pm_c20, ⟨pm_c21, ⟨pm_c22, ⟨pm_c23, trivial⟩⟩⟩⟩⟩⟩⟩⟩⟩⟩⟩⟩⟩⟩⟩⟩⟩⟩⟩⟩⟩⟩⟩⟩
theorem pm_gd1 : pm_good 24 pm_ks1 := ⟨pm_c24, ⟨pm_c25, ⟨pm_c26, ⟨pm_c27, ⟨pm_c28, ⟨pm_c29, ⟨pm_c30, ⟨pm_c31, ⟨pm_c32, ⟨pm_c33, ⟨pm_c34, ⟨pm_c35, ⟨pm_c36, ⟨pm_c37, ⟨pm_c38, ⟨pm_c39, ⟨pm_c40, ⟨pm_c41, ⟨pm_c42, ⟨pm_c43, ⟨pm_c44, ⟨pm_c45, ⟨pm_c46, ⟨pm_c47, trivial⟩⟩⟩⟩⟩⟩⟩⟩⟩⟩⟩⟩⟩⟩⟩⟩⟩⟩⟩⟩⟩⟩⟩⟩
theorem pm_gd2 : pm_good 48 pm_ks2 := ⟨pm_c48, ⟨pm_c49, ⟨pm_c50, ⟨pm_c51, ⟨pm_c52, ⟨pm_c53, ⟨pm_c54, ⟨pm_c55, ⟨pm_c56, ⟨pm_c57, ⟨pm_c58, ⟨pm_c59, ⟨pm_c60, ⟨pm_c61, ⟨pm_c62, ⟨pm_c63, ⟨pm_c64, ⟨pm_c65, ⟨pm_c66, ⟨pm_c67, ⟨pm_c68, ⟨pm_c69, ⟨pm_c70, ⟨pm_c71, trivial⟩⟩⟩⟩⟩⟩⟩⟩⟩⟩⟩⟩⟩⟩⟩⟩⟩⟩⟩⟩⟩⟩⟩⟩
theorem pm_gd3 : pm_good 72 pm_ks3 := ⟨pm_c72, ⟨pm_c73, ⟨pm_c74, ⟨pm_c75, ⟨pm_c76, ⟨pm_c77, ⟨pm_c78, ⟨pm_c79, ⟨pm_c80, ⟨pm_c81, ⟨pm_c82, ⟨pm_c83, ⟨pm_c84, ⟨pm_c85, ⟨pm_c86, ⟨pm_c87, ⟨pm_c88, ⟨pm_c89, ⟨pm_c90, ⟨pm_c91, ⟨pm_c92, ⟨pm_c93, ⟨pm_c94, ⟨pm_c95, trivial⟩⟩⟩⟩⟩⟩⟩⟩⟩⟩⟩⟩⟩⟩⟩⟩⟩⟩⟩⟩⟩⟩⟩⟩
theorem pm_gd4 : pm_good 96 pm_ks4 := ⟨pm_c96, ⟨pm_c97, ⟨pm_c98, ⟨pm_c99, ⟨pm_c100, ⟨pm_c101, ⟨pm_c102, ⟨pm_c103, ⟨pm_c104, ⟨pm_c105, ⟨pm_c106, ⟨pm_c107, ⟨pm_c108, ⟨pm_c109, ⟨pm_c110, ⟨pm_c111, ⟨pm_c112, ⟨pm_c113, ⟨pm_c114, ⟨pm_c115, ⟨pm_c116, ⟨pm_c117, ⟨pm_c118, ⟨pm_c119, trivial⟩⟩⟩⟩⟩⟩⟩⟩⟩⟩⟩⟩⟩⟩⟩⟩⟩⟩⟩⟩⟩⟩⟩⟩
theorem pm_gd5 : pm_good 120 pm_ks5 := ⟨pm_c120, ⟨pm_c121, ⟨pm_c122, ⟨pm_c123, ⟨pm_c124, ⟨pm_c125, ⟨pm_c126, ⟨pm_c127, ⟨pm_c128, ⟨pm_c129, ⟨pm_c130, ⟨pm_c131, ⟨pm_c132, ⟨pm_c133, ⟨pm_c134, ⟨pm_c135, ⟨pm_c136, ⟨pm_c137, ⟨pm_c138, ⟨pm_c139, ⟨pm_c140, ⟨pm_c141, ⟨pm_c142, ⟨pm_c143, trivial⟩⟩⟩⟩⟩⟩⟩⟩⟩⟩⟩⟩⟩⟩⟩⟩⟩⟩⟩⟩⟩⟩⟩⟩
theorem pm_gd6 : pm_good 144 pm_ks6 := ⟨pm_c144, ⟨pm_c145, ⟨pm_c146, ⟨pm_c147, ⟨pm_c148, ⟨pm_c149, ⟨pm_c150, ⟨pm_c151, ⟨pm_c152, ⟨pm_c153, ⟨pm_c154, ⟨pm_c155, ⟨pm_c156, ⟨pm_c157, ⟨pm_c158, ⟨pm_c159, ⟨pm_c160, ⟨pm_c161, ⟨pm_c162, ⟨pm_c163, ⟨pm_c164, ⟨pm_c165, ⟨pm_c166, ⟨pm_c167, trivial⟩⟩⟩⟩⟩⟩⟩⟩⟩⟩⟩⟩⟩⟩⟩⟩⟩⟩⟩⟩⟩⟩⟩⟩
theorem pm_gd7 : pm_good 168 pm_ks7 := ⟨pm_c168, ⟨pm_c169, ⟨pm_c170, ⟨pm_c171, trivial⟩⟩⟩⟩
theorem pm_gd : pm_good 0 pm_ks := (pm_good_app pm_ks0 _ 0 pm_gd0 (pm_good_app pm_ks1 _ 24 pm_gd1 (pm_good_app pm_ks2 _ 48 pm_gd2 (pm_good_app pm_ks3 _ 72 pm_gd3 (pm_good_app pm_ks4 _ 96 pm_gd4 (pm_good_app pm_ks5 _ 120 pm_gd5 (pm_good_app pm_ks6 _ 144 pm_gd6 pm_gd7)))))))
theorem pm_ck (m : Nat) : (pm_ks.getD m []).all (pm_chk m) = true := by
  have := pm_good_at pm_ks 0 m pm_gd
  rwa [Nat.zero_add] at this
theorem pm_code_mem {m pc : Nat} {i : pm_I} (h : pm_code m pc = some i) : (pc, i) ∈ pm_ks.getD m [] := by
  unfold pm_code at h
  generalize pm_ks.getD m [] = L at h
  induction L with
  | nil => simp at h
  | cons a L ih =>
    obtain ⟨k, v⟩ := a
    rw [List.lookup_cons] at h
    by_cases hk : pc = k
    · subst hk
      simp at h
      subst h
      exact List.mem_cons_self
    · rw [show (pc == k) = false from by simpa using hk] at h
      exact List.mem_cons_of_mem _ (ih h)
theorem pm_chk_of {m pc : Nat} {i : pm_I} (h : pm_code m pc = some i) : pm_chk m (pc, i) = true := List.all_eq_true.mp (pm_ck m) _ (pm_code_mem h)
