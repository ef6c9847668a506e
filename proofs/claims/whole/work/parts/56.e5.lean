theorem bc_all : ∀ i : Fin 16, jBc ((1 : Int32) <<< (nI i.1 &&& 31) - 1) = nI i.1 := by decide +kernel
/-- a pair of places has one path at most -/
def UQi (N : TN) : Prop := ∀ i j, i < N_n N → j < N_n N → ∀ x y, ¬ x = y → mAt N (nI i) x = true → mAt N (nI i) y = true → mAt N (nI j) x = true → mAt N (nI j) y = true → i = j
theorem mJo_sp {N : TN} {x y : Int32} : ∀ n, (mJo N x y n = -1 ∧ ∀ i, i < n → ¬ (mAt N (nI i) x = true ∧ mAt N (nI i) y = true ∧ ¬ x = y)) ∨ ∃ i, i < n ∧ mJo N x y n = nI i ∧ mAt N (nI i) x = true ∧ mAt N (nI i) y = true ∧ ¬ x = y
  | 0 => Or.inl ⟨rfl, fun _ h => absurd h (Nat.not_lt_zero _)⟩
  | n + 1 => by
    rw [mJo]
    split
    · rename_i h; exact Or.inr ⟨n, by omega, rfl, h⟩
    · rename_i h
      rcases mJo_sp (N := N) (x := x) (y := y) n with ⟨h1, h2⟩ | ⟨i, h1, h2⟩
      · refine Or.inl ⟨h1, fun i hi => ?_⟩
        by_cases e : i = n
        · subst e; exact h
        · exact h2 i (by omega)
      · exact Or.inr ⟨i, by omega, h2⟩
theorem jo_eq {N : TN} {pb : Nat → Int32} (hN : N_n N ≤ 16) (hB : PBi N pb) (hU : UQi N) {x y : Nat} (hx : x < 10) (hy : y < 10) (hxy : ¬ nI x = nI y) : jJo pb (nI x) (nI y) = mJo N (nI x) (nI y) (N_n N) := by
  have hw : jBo pb (nI x) (nI y) = mPA N (nI x) (N_n N) &&& mPA N (nI y) (N_n N) := by
    unfold jBo
    first
      | rw [if_neg hxy, zPb_pl hB hx, zPb_pl hB hy]
      | rw [zPb_pl hB hx, zPb_pl hB hy]
  unfold jJo
  rw [hw]
  rcases mJo_sp (N := N) (x := nI x) (y := nI y) (N_n N) with ⟨h1, h2⟩ | ⟨i, h1, h2, h3, h4, h5⟩
  · rw [h1, if_pos]
    refine bt_ext (fun j hj => ?_)
    rw [bt_and, bt_PA _ hN j hj, bt_PA _ hN j hj, bt_0, Bool.and_eq_false_iff, decide_eq_false_iff_not, decide_eq_false_iff_not]
    by_cases q : j < N_n N ∧ mAt N (nI j) (nI x) = true
    · exact Or.inr (fun z => h2 j q.1 ⟨q.2, z.2, hxy⟩)
    · exact Or.inl q
  · have hv : mPA N (nI x) (N_n N) &&& mPA N (nI y) (N_n N) = (1 : Int32) <<< (nI i &&& 31) := by
      refine bt_ext (fun j hj => ?_)
      rw [bt_and, bt_PA _ hN j hj, bt_PA _ hN j hj, bt_sh (by omega) hj, Bool.eq_iff_iff, Bool.and_eq_true, decide_eq_true_eq, decide_eq_true_eq, decide_eq_true_eq]
      constructor
      · rintro ⟨⟨z1, z2⟩, -, z3⟩
        exact hU i j h1 z1 _ _ hxy h3 h4 z2 z3
      · intro z; subst z; exact ⟨⟨h1, h3⟩, h1, h4⟩
    rw [hv, h2, if_neg, bc_all ⟨i, by omega⟩]
    intro z
    have h9 := congrArg (fun w => bt w i) z
    simp only [bt_sh (show i < 32 by omega) (show i < 32 by omega), bt_0] at h9
    simp at h9