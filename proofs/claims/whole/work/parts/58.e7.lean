theorem hasB_at {f : Nat → Int32} : ∀ n i, i < n → hasB f (f i) n = true
  | 0, _, h => absurd h (Nat.not_lt_zero _)
  | n + 1, i, h => by
    rw [hasB, Bool.or_eq_true]
    by_cases q : i = n
    · subst q; exact Or.inr (decide_eq_true rfl)
    · exact Or.inl (hasB_at n i (by omega))
/-- a new path keeps the words by place -/
theorem PBi_0 : PBi N0 f0 := fun _ _ => rfl