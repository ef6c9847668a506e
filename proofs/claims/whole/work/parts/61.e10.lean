/-! how many bits: one alone is a power of two -/
theorem b1_0 : ∀ a : Fin 16, ∀ b : Fin 256, (decide (jBc (nI (4096 * 0 + 256 * a.1 + b.1)) = 1)) = decide (4096 * 0 + 256 * a.1 + b.1 = 2 ^ Nat.log2 (4096 * 0 + 256 * a.1 + b.1)) := by decide +kernel
theorem b1_1 : ∀ a : Fin 16, ∀ b : Fin 256, (decide (jBc (nI (4096 * 1 + 256 * a.1 + b.1)) = 1)) = decide (4096 * 1 + 256 * a.1 + b.1 = 2 ^ Nat.log2 (4096 * 1 + 256 * a.1 + b.1)) := by decide +kernel
theorem b1_2 : ∀ a : Fin 16, ∀ b : Fin 256, (decide (jBc (nI (4096 * 2 + 256 * a.1 + b.1)) = 1)) = decide (4096 * 2 + 256 * a.1 + b.1 = 2 ^ Nat.log2 (4096 * 2 + 256 * a.1 + b.1)) := by decide +kernel
theorem b1_3 : ∀ a : Fin 16, ∀ b : Fin 256, (decide (jBc (nI (4096 * 3 + 256 * a.1 + b.1)) = 1)) = decide (4096 * 3 + 256 * a.1 + b.1 = 2 ^ Nat.log2 (4096 * 3 + 256 * a.1 + b.1)) := by decide +kernel
theorem b1_4 : ∀ a : Fin 16, ∀ b : Fin 256, (decide (jBc (nI (4096 * 4 + 256 * a.1 + b.1)) = 1)) = decide (4096 * 4 + 256 * a.1 + b.1 = 2 ^ Nat.log2 (4096 * 4 + 256 * a.1 + b.1)) := by decide +kernel
theorem b1_5 : ∀ a : Fin 16, ∀ b : Fin 256, (decide (jBc (nI (4096 * 5 + 256 * a.1 + b.1)) = 1)) = decide (4096 * 5 + 256 * a.1 + b.1 = 2 ^ Nat.log2 (4096 * 5 + 256 * a.1 + b.1)) := by decide +kernel
theorem b1_6 : ∀ a : Fin 16, ∀ b : Fin 256, (decide (jBc (nI (4096 * 6 + 256 * a.1 + b.1)) = 1)) = decide (4096 * 6 + 256 * a.1 + b.1 = 2 ^ Nat.log2 (4096 * 6 + 256 * a.1 + b.1)) := by decide +kernel
theorem b1_7 : ∀ a : Fin 16, ∀ b : Fin 256, (decide (jBc (nI (4096 * 7 + 256 * a.1 + b.1)) = 1)) = decide (4096 * 7 + 256 * a.1 + b.1 = 2 ^ Nat.log2 (4096 * 7 + 256 * a.1 + b.1)) := by decide +kernel
theorem b1_8 : ∀ a : Fin 16, ∀ b : Fin 256, (decide (jBc (nI (4096 * 8 + 256 * a.1 + b.1)) = 1)) = decide (4096 * 8 + 256 * a.1 + b.1 = 2 ^ Nat.log2 (4096 * 8 + 256 * a.1 + b.1)) := by decide +kernel
theorem b1_9 : ∀ a : Fin 16, ∀ b : Fin 256, (decide (jBc (nI (4096 * 9 + 256 * a.1 + b.1)) = 1)) = decide (4096 * 9 + 256 * a.1 + b.1 = 2 ^ Nat.log2 (4096 * 9 + 256 * a.1 + b.1)) := by decide +kernel
theorem b1_10 : ∀ a : Fin 16, ∀ b : Fin 256, (decide (jBc (nI (4096 * 10 + 256 * a.1 + b.1)) = 1)) = decide (4096 * 10 + 256 * a.1 + b.1 = 2 ^ Nat.log2 (4096 * 10 + 256 * a.1 + b.1)) := by decide +kernel
theorem b1_11 : ∀ a : Fin 16, ∀ b : Fin 256, (decide (jBc (nI (4096 * 11 + 256 * a.1 + b.1)) = 1)) = decide (4096 * 11 + 256 * a.1 + b.1 = 2 ^ Nat.log2 (4096 * 11 + 256 * a.1 + b.1)) := by decide +kernel
theorem b1_12 : ∀ a : Fin 16, ∀ b : Fin 256, (decide (jBc (nI (4096 * 12 + 256 * a.1 + b.1)) = 1)) = decide (4096 * 12 + 256 * a.1 + b.1 = 2 ^ Nat.log2 (4096 * 12 + 256 * a.1 + b.1)) := by decide +kernel
theorem b1_13 : ∀ a : Fin 16, ∀ b : Fin 256, (decide (jBc (nI (4096 * 13 + 256 * a.1 + b.1)) = 1)) = decide (4096 * 13 + 256 * a.1 + b.1 = 2 ^ Nat.log2 (4096 * 13 + 256 * a.1 + b.1)) := by decide +kernel
theorem b1_14 : ∀ a : Fin 16, ∀ b : Fin 256, (decide (jBc (nI (4096 * 14 + 256 * a.1 + b.1)) = 1)) = decide (4096 * 14 + 256 * a.1 + b.1 = 2 ^ Nat.log2 (4096 * 14 + 256 * a.1 + b.1)) := by decide +kernel
theorem b1_15 : ∀ a : Fin 16, ∀ b : Fin 256, (decide (jBc (nI (4096 * 15 + 256 * a.1 + b.1)) = 1)) = decide (4096 * 15 + 256 * a.1 + b.1 = 2 ^ Nat.log2 (4096 * 15 + 256 * a.1 + b.1)) := by decide +kernel
theorem b1_m {m : Nat} (h : m < 65536) : (jBc (nI m) = 1) ↔ m = 2 ^ Nat.log2 m := by
  obtain ⟨c, a, b, hc, ha, hb, e⟩ : ∃ c a b : Nat, c < 16 ∧ a < 16 ∧ b < 256 ∧ m = 4096 * c + 256 * a + b := ⟨m / 4096, m / 256 % 16, m % 256, by omega, by omega, by omega, by omega⟩
  have h9 : decide (jBc (nI m) = 1) = decide (m = 2 ^ Nat.log2 m) := by
    subst e
    rcases (show c = 0 ∨ c = 1 ∨ c = 2 ∨ c = 3 ∨ c = 4 ∨ c = 5 ∨ c = 6 ∨ c = 7 ∨ c = 8 ∨ c = 9 ∨ c = 10 ∨ c = 11 ∨ c = 12 ∨ c = 13 ∨ c = 14 ∨ c = 15 by omega) with e | e | e | e | e | e | e | e | e | e | e | e | e | e | e | e <;> subst e
    · exact b1_0 ⟨a, ha⟩ ⟨b, hb⟩
    · exact b1_1 ⟨a, ha⟩ ⟨b, hb⟩
    · exact b1_2 ⟨a, ha⟩ ⟨b, hb⟩
    · exact b1_3 ⟨a, ha⟩ ⟨b, hb⟩
    · exact b1_4 ⟨a, ha⟩ ⟨b, hb⟩
    · exact b1_5 ⟨a, ha⟩ ⟨b, hb⟩
    · exact b1_6 ⟨a, ha⟩ ⟨b, hb⟩
    · exact b1_7 ⟨a, ha⟩ ⟨b, hb⟩
    · exact b1_8 ⟨a, ha⟩ ⟨b, hb⟩
    · exact b1_9 ⟨a, ha⟩ ⟨b, hb⟩
    · exact b1_10 ⟨a, ha⟩ ⟨b, hb⟩
    · exact b1_11 ⟨a, ha⟩ ⟨b, hb⟩
    · exact b1_12 ⟨a, ha⟩ ⟨b, hb⟩
    · exact b1_13 ⟨a, ha⟩ ⟨b, hb⟩
    · exact b1_14 ⟨a, ha⟩ ⟨b, hb⟩
    · exact b1_15 ⟨a, ha⟩ ⟨b, hb⟩
  constructor
  · intro z; rw [decide_eq_true z] at h9; exact of_decide_eq_true h9.symm
  · intro z; rw [decide_eq_true z] at h9; exact of_decide_eq_true h9
theorem p2_all : ∀ k : Fin 16, nI (2 ^ k.1) = (1 : Int32) <<< (nI k.1 &&& 31) := by decide +kernel
theorem b1_all : ∀ k : Fin 16, jBc ((1 : Int32) <<< (nI k.1 &&& 31)) = 1 := by decide +kernel
/-- one bit alone -/
theorem bc_1 {x : Int32} (h : ∀ i, 16 ≤ i → i < 32 → bt x i = false) (hx : jBc x = 1) : ∃ k : Nat, k < 16 ∧ x = (1 : Int32) <<< (nI k &&& 31) := by
  obtain ⟨m, hm, rfl⟩ := w16 h
  have h1 := (b1_m hm).mp hx
  have h2 : Nat.log2 m < 16 := by
    refine Classical.byContradiction fun z => ?_
    have h3 : 2 ^ 16 ≤ 2 ^ Nat.log2 m := Nat.pow_le_pow_right (by decide) (by omega)
    omega
  exact ⟨Nat.log2 m, h2, by rw [← p2_all ⟨Nat.log2 m, h2⟩, ← h1]⟩
