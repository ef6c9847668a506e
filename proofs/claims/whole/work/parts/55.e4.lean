/-- the paths kept by place are those that touch it -/
def PBi (N : TN) (pb : Nat → Int32) : Prop := ∀ p : Nat, p < 10 → pb p = mPA N (nI p) (N_n N)
def SPi (S : TS) : Prop := ∀ i, i < S_n S → ∃ p : Nat, p < 10 ∧ S_p S i = nI p
theorem pl_in {p : Nat} (h : p < 10) : 0 ≤ nI p ∧ nI p ≤ 9 := ⟨nI_pos' (by omega), by rw [show (9 : Int32) = nI 9 from rfl, nI_leI (by omega) (by omega)]; omega⟩
theorem pl_of {x : Int32} (h : 0 ≤ x ∧ x ≤ 9) : ∃ p : Nat, p < 10 ∧ x = nI p := by
  obtain ⟨j, hj, ej⟩ := nI_of2 (M := 9) (n := 9) (x := x) (by decide) (fun h9 => absurd h9 (Int32.not_lt.mpr h.1)) h.2
  exact ⟨j, by omega, ej⟩
theorem zPb_pl {N : TN} {pb : Nat → Int32} (hB : PBi N pb) {p : Nat} (hp : p < 10) : zPb pb (nI p) = mPA N (nI p) (N_n N) := by
  unfold zPb; rw [if_pos (pl_in hp), rg_in hp (by decide), hB p hp]
theorem p15_of {x : Int32} (h : 0 ≤ x ∧ x ≤ 15) : ∃ p : Nat, p < 16 ∧ x = nI p := by
  obtain ⟨j, hj, ej⟩ := nI_of2 (M := 15) (n := 15) (x := x) (by decide) (fun h9 => absurd h9 (Int32.not_lt.mpr h.1)) h.2
  exact ⟨j, by omega, ej⟩
theorem p15_in {p : Nat} (h : p < 16) : 0 ≤ nI p ∧ nI p ≤ 15 := ⟨nI_pos' (by omega), by rw [show (15 : Int32) = nI 15 from rfl, nI_leI (by omega) (by omega)]; omega⟩
theorem zbt_n {i : Nat} (h : i < 16) : zbt (nI i) = (1 : Int32) <<< (nI i &&& 31) := if_pos (p15_in h)
theorem mAt_bnd {N : TN} {k p : Int32} (hN : N_n N ≤ 16) (h : mAt N k p = true) : ∃ j : Nat, j < N_n N ∧ k = nI j := by
  unfold mAt at h
  rw [decide_eq_true_eq] at h
  exact ix_of h.1 (by omega)
theorem to_eq {N : TN} {pb : Nat → Int32} (hN : N_n N ≤ 16) (hB : PBi N pb) {p : Nat} (hp : p < 10) (k : Int32) : jTo pb k (nI p) = mAt N k (nI p) := by
  unfold jTo
  rw [zPb_pl hB hp]
  by_cases h : 0 ≤ k ∧ k ≤ 15
  · obtain ⟨j, hj, ej⟩ := p15_of h
    subst ej
    rw [zbt_n hj, Bool.eq_iff_iff, decide_eq_true_eq, bt_and_sh (by omega), bt_PA _ hN j (by omega), decide_eq_false_iff_not]
    constructor
    · intro z
      exact (Classical.not_not.mp z).2
    · intro z
      obtain ⟨j2, h1, h2⟩ := mAt_bnd hN z
      rw [nI_eq (by omega) (by omega)] at h2
      exact fun z2 => z2 ⟨by omega, z⟩
  · rw [show zbt k = 0 from if_neg h, show mPA N (nI p) (N_n N) &&& 0 = 0 from bt_ext (fun i _ => by rw [bt_and, bt_0, Bool.and_false])]
    have h9 : mAt N k (nI p) = false := by
      rw [Bool.eq_false_iff]
      intro z
      obtain ⟨j, h1, h2⟩ := mAt_bnd hN z
      exact h (h2 ▸ p15_in (by omega))
    rw [h9]; rfl
theorem lf_0 {S : TS} (hf : LF S) {i : Nat} (hi : i < S_n S) : (S_f S i ≤ 0) ↔ S_f S i = 0 := by
  obtain ⟨v, hv, ev⟩ := hf i hi
  rw [ev, show (0 : Int32) = nI 0 from rfl, nI_leI (by omega) (by decide), nI_eq (by omega) (by decide)]
  omega
theorem e_turn {N : TN} {S : TS} {pb : Nat → Int32} {x y : Int32} (hN : N_n N ≤ 16) (hS : S_n S ≤ 24) (hB : PBi N pb) (hp : SPi S) (hf : LF S) : mXturn N S x y = jXturn S pb x y := by
  unfold mXturn jXturn
  by_cases h : 0 ≤ x ∧ x ≤ nI (S_n S) - 1
  · rw [if_pos h, if_pos h]
    obtain ⟨j, hj, ej⟩ := ix_of h (by omega)
    subst ej
    obtain ⟨p, hp9, ep⟩ := hp j hj
    simp only [rg_in hj (show S_n S < 2 ^ 31 by omega), nI_cl (show j < 2 ^ 31 by omega)]
    rw [ep, to_eq hN hB hp9]
    simp only [lf_0 hf hj]
  · rw [if_neg h, if_neg h]