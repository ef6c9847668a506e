/-! hounds at a fork: both sides. the greatest of some numbers -/
def nMx (F : Nat → Nat) : Nat → Nat
  | 0 => 0
  | b + 1 => if nMx F b < F b then F b else nMx F b
theorem nMx_le {F : Nat → Nat} : ∀ n b, b < n → F b ≤ nMx F n
  | 0, _, h => absurd h (Nat.not_lt_zero _)
  | n + 1, b, h => by
    rw [nMx]
    by_cases e : b = n
    · subst e; split <;> omega
    · have := nMx_le (F := F) n b (by omega)
      split <;> omega
theorem nMx_is {F : Nat → Nat} : ∀ n, nMx F n = 0 ∨ ∃ b, b < n ∧ nMx F n = F b
  | 0 => Or.inl rfl
  | n + 1 => by
    rw [nMx]
    split
    · exact Or.inr ⟨n, by omega, rfl⟩
    · rcases nMx_is (F := F) n with h | ⟨b, h1, h2⟩
      · exact Or.inl h
      · exact Or.inr ⟨b, by omega, h2⟩
theorem nMx_congr {F G : Nat → Nat} : ∀ n, (∀ b, b < n → F b = G b) → nMx F n = nMx G n
  | 0, _ => rfl
  | n + 1, h => by rw [nMx, nMx, nMx_congr n (fun b hb => h b (by omega)), h n (by omega)]
/-- sums, the longest, the time till a branch is found -/
def nSm (v u : Nat → Nat) (h : Nat) : Nat → Nat
  | 0 => 0
  | b + 1 => nSm v u h b + (if u b = h then v b else 0)
def nPk (v u : Nat → Nat) (h b : Nat) : Nat := if u b = h then v b else 0
def nAh (v : Nat → Nat) (k b : Nat) : Prop := v k < v b ∨ (v k = v b ∧ k < b)
def nFa (v u : Nat → Nat) (b : Nat) : Nat → Nat
  | 0 => v b
  | i + 1 => nFa v u b i + (if (v i < v b ∨ (v i = v b ∧ i < b)) ∧ u i = u b then 2 * v i else 0)
theorem sumA {v u : Nat → Nat} {b m : Nat} (hm : u m = u b) (hne : ¬ m = b) (ha : ¬ (v m < v b ∨ (v m = v b ∧ m < b))) : ∀ n, nFa v u b n + (if b < n then 2 * v b else 0) + (if m < n then 2 * v m else 0) ≤ 2 * nSm v u (u b) n + v b
  | 0 => by rw [nFa, nSm, if_neg (Nat.not_lt_zero _), if_neg (Nat.not_lt_zero _)]; omega
  | n + 1 => by
    have ih := sumA hm hne ha n
    rw [nFa, nSm]
    by_cases e : n = b
    · subst e
      rw [if_neg (fun z => by omega), if_pos (show n < n + 1 by omega), if_pos rfl]
      rw [if_neg (show ¬ n < n by omega)] at ih
      by_cases h1 : m < n
      · rw [if_pos (show m < n + 1 by omega)]; rw [if_pos h1] at ih; omega
      · rw [if_neg (show ¬ m < n + 1 by omega)]; rw [if_neg h1] at ih; omega
    · by_cases e2 : n = m
      · subst e2
        rw [if_neg (fun z => ha z.1), if_pos (show n < n + 1 by omega), if_pos hm]
        rw [if_neg (show ¬ n < n by omega)] at ih
        by_cases h1 : b < n
        · rw [if_pos (show b < n + 1 by omega)]; rw [if_pos h1] at ih; omega
        · rw [if_neg (show ¬ b < n + 1 by omega)]; rw [if_neg h1] at ih; omega
      · have e3 : (if b < n + 1 then 2 * v b else 0) = (if b < n then 2 * v b else 0) := by
          by_cases h1 : b < n
          · rw [if_pos h1, if_pos (by omega)]
          · rw [if_neg h1, if_neg (by omega)]
        have e4 : (if m < n + 1 then 2 * v m else 0) = (if m < n then 2 * v m else 0) := by
          by_cases h1 : m < n
          · rw [if_pos h1, if_pos (by omega)]
          · rw [if_neg h1, if_neg (by omega)]
        rw [e3, e4]
        by_cases h1 : u n = u b
        · rw [if_pos h1]
          split <;> omega
        · rw [if_neg h1, if_neg (fun z => h1 z.2)]
          omega
theorem sumB {v u : Nat → Nat} {b : Nat} : ∀ n, nFa v u b n + (if b < n then 2 * v b else 0) ≤ 2 * nSm v u (u b) n + v b
  | 0 => by rw [nFa, nSm, if_neg (Nat.not_lt_zero _)]; omega
  | n + 1 => by
    have ih := sumB (v := v) (u := u) (b := b) n
    rw [nFa, nSm]
    by_cases e : n = b
    · subst e
      rw [if_neg (fun z => by omega), if_pos (show n < n + 1 by omega), if_pos rfl]
      rw [if_neg (show ¬ n < n by omega)] at ih
      omega
    · have e3 : (if b < n + 1 then 2 * v b else 0) = (if b < n then 2 * v b else 0) := by
        by_cases h1 : b < n
        · rw [if_pos h1, if_pos (by omega)]
        · rw [if_neg h1, if_neg (by omega)]
      rw [e3]
      by_cases h1 : u n = u b
      · rw [if_pos h1]
        split <;> omega
      · rw [if_neg h1, if_neg (fun z => h1 z.2)]
        omega
theorem sumC {v u : Nat → Nat} {b N9 : Nat} (hl : ∀ k, k < N9 → u k = u b → ¬ k = b → (v k < v b ∨ (v k = v b ∧ k < b))) : ∀ n, n ≤ N9 → nFa v u b n + (if b < n then 2 * v b else 0) = 2 * nSm v u (u b) n + v b
  | 0, _ => by rw [nFa, nSm, if_neg (Nat.not_lt_zero _)]; omega
  | n + 1, hn => by
    have ih := sumC hl n (by omega)
    rw [nFa, nSm]
    by_cases e : n = b
    · subst e
      rw [if_neg (fun z => by omega), if_pos (show n < n + 1 by omega), if_pos rfl]
      rw [if_neg (show ¬ n < n by omega)] at ih
      omega
    · have e3 : (if b < n + 1 then 2 * v b else 0) = (if b < n then 2 * v b else 0) := by
        by_cases h1 : b < n
        · rw [if_pos h1, if_pos (by omega)]
        · rw [if_neg h1, if_neg (by omega)]
      rw [e3]
      by_cases h1 : u n = u b
      · rw [if_pos h1, if_pos ⟨hl n (by omega) h1 e, h1⟩]; omega
      · rw [if_neg h1, if_neg (fun z => h1 z.2)]; omega
theorem last_is {v u : Nat → Nat} {h : Nat} : ∀ n, (∃ k, k < n ∧ u k = h) → ∃ b, b < n ∧ u b = h ∧ ∀ k, k < n → u k = h → ¬ k = b → (v k < v b ∨ (v k = v b ∧ k < b))
  | 0, hx => by obtain ⟨k, hk, -⟩ := hx; exact absurd hk (Nat.not_lt_zero _)
  | n + 1, hx => by
    by_cases hn : u n = h
    · by_cases hy : ∃ k, k < n ∧ u k = h
      · obtain ⟨b, b1, b2, b3⟩ := last_is (v := v) n hy
        by_cases hv : v n < v b
        · refine ⟨b, by omega, b2, fun k k1 k2 k3 => ?_⟩
          by_cases e : k = n
          · subst e; exact Or.inl hv
          · exact b3 k (by omega) k2 k3
        · refine ⟨n, by omega, hn, fun k k1 k2 k3 => ?_⟩
          by_cases e : k = b
          · subst e; omega
          · have := b3 k (by omega) k2 e
            omega
      · exact ⟨n, by omega, hn, fun k k1 k2 k3 => absurd ⟨k, by omega, k2⟩ hy⟩
    · obtain ⟨k, k1, k2⟩ := hx
      have hkn : k < n := by
        by_cases e : k = n
        · subst e; exact absurd k2 hn
        · omega
      obtain ⟨b, b1, b2, b3⟩ := last_is (v := v) n ⟨k, hkn, k2⟩
      refine ⟨b, by omega, b2, fun k k1 k2 k3 => ?_⟩
      by_cases e : k = n
      · subst e; exact absurd k2 hn
      · exact b3 k (by omega) k2 k3
theorem nSm_0 {v u : Nat → Nat} {h : Nat} : ∀ n, (¬ ∃ k, k < n ∧ u k = h) → nSm v u h n = 0
  | 0, _ => rfl
  | n + 1, hx => by rw [nSm, nSm_0 n (fun ⟨k, k1, k2⟩ => hx ⟨k, by omega, k2⟩), if_neg (fun z => hx ⟨n, by omega, z⟩)]
/-- the worst over hounds is the worst over branches -/
theorem worst_eq {v u : Nat → Nat} {n hh : Nat} (hu : ∀ b, b < n → u b < hh) : nMx (fun h => 2 * nSm v u h n - nMx (nPk v u h) n) hh = nMx (fun b => nFa v u b n) n := by
  refine Nat.le_antisymm ?_ ?_
  · rcases nMx_is (F := fun h => 2 * nSm v u h n - nMx (nPk v u h) n) hh with e | ⟨h, h1, e⟩
    · rw [e]; exact Nat.zero_le _
    · rw [e]
      by_cases hx : ∃ k, k < n ∧ u k = h
      · obtain ⟨b, b1, b2, b3⟩ := last_is (v := v) n hx
        have hc := sumC (v := v) (u := u) (b := b) (N9 := n) (fun k k1 k2 k3 => b3 k k1 (k2.trans b2) k3) n (Nat.le_refl _)
        rw [if_pos b1, b2] at hc
        have hL : v b ≤ nMx (nPk v u h) n := by
          have h9 := nMx_le (F := nPk v u h) n b b1
          unfold nPk at h9 ⊢
          rw [if_pos b2] at h9
          exact h9
        have hF := nMx_le (F := fun b => nFa v u b n) n b b1
        show 2 * nSm v u h n - nMx (nPk v u h) n ≤ _
        have hF2 : nFa v u b n ≤ nMx (fun b => nFa v u b n) n := hF
        omega
      · show 2 * nSm v u h n - nMx (nPk v u h) n ≤ _
        rw [nSm_0 n hx]; omega
  · rcases nMx_is (F := fun b => nFa v u b n) n with e | ⟨b, b1, e⟩
    · rw [e]; exact Nat.zero_le _
    · rw [e]
      have hW := nMx_le (F := fun h => 2 * nSm v u h n - nMx (nPk v u h) n) hh (u b) (hu b b1)
      have hW2 : 2 * nSm v u (u b) n - nMx (nPk v u (u b)) n ≤ nMx (fun h => 2 * nSm v u h n - nMx (nPk v u h) n) hh := hW
      show nFa v u b n ≤ _
      have hB := sumB (v := v) (u := u) (b := b) n
      rw [if_pos b1] at hB
      rcases nMx_is (F := nPk v u (u b)) n with e2 | ⟨m, m1, e2⟩
      · omega
      · by_cases hm : u m = u b
        · have e3 : nMx (nPk v u (u b)) n = v m := by rw [e2]; exact if_pos hm
          by_cases hv : v m ≤ v b
          · omega
          · have hA := sumA (v := v) (u := u) (b := b) (m := m) hm (fun z => by subst z; omega) (by omega) n
            rw [if_pos b1, if_pos m1] at hA
            omega
        · have e3 : nMx (nPk v u (u b)) n = 0 := by rw [e2]; exact if_neg hm
          omega
/-- the number that figures spell -/
def nV (hh : Nat) (u : Nat → Nat) : Nat → Nat
  | 0 => 0
  | b + 1 => hh * nV hh u b + u b
theorem nV_congr {hh : Nat} {u w : Nat → Nat} : ∀ b, (∀ i, i < b → u i = w i) → nV hh u b = nV hh w b
  | 0, _ => rfl
  | b + 1, h => by rw [nV, nV, nV_congr b (fun i hi => h i (by omega)), h b (by omega)]
theorem nV_div {hh x y : Nat} (hy : y < hh) : (hh * x + y) / hh = x := by
  rw [Nat.mul_add_div (by omega), Nat.div_eq_of_lt hy, Nat.add_zero]
theorem nV_mod {hh x y : Nat} (hy : y < hh) : (hh * x + y) % hh = y := by
  rw [Nat.mul_add_mod, Nat.mod_eq_of_lt hy]
theorem mHd_nV {hh : Nat} {u : Nat → Nat} {b : Nat} : ∀ d, (∀ i, i < b + d → u i < hh) → mHd hh d (nV hh u (b + d)) = nV hh u b
  | 0, _ => rfl
  | d + 1, h => by
    rw [mHd, ← Nat.add_assoc, nV, nV_div (h (b + d) (by omega))]
    exact mHd_nV d (fun i hi => h i (by omega))
theorem mHo_nV {n hh : Nat} {u : Nat → Nat} {b : Nat} (hb : b < n) (hu : ∀ i, i < n → u i < hh) : mHo n hh (nV hh u n) b = u b := by
  unfold mHo
  have h9 := mHd_nV (hh := hh) (u := u) (b := b + 1) (n - 1 - b) (fun i hi => hu i (by omega))
  rw [show b + 1 + (n - 1 - b) = n by omega] at h9
  rw [h9, nV, nV_mod (hu b hb)]
theorem nV_lt {hh : Nat} {u : Nat → Nat} : ∀ b, (∀ i, i < b → u i < hh) → nV hh u b < hh ^ b
  | 0, _ => by rw [nV, Nat.pow_zero]; exact Nat.one_pos
  | b + 1, h => by
    have h1 := nV_lt b (fun i hi => h i (by omega))
    have h2 := h b (by omega)
    have h3 : hh * (nV hh u b + 1) ≤ hh * hh ^ b := Nat.mul_le_mul_left hh h1
    rw [nV, Nat.pow_succ, Nat.mul_comm (hh ^ b) hh]
    rw [Nat.mul_add, Nat.mul_one] at h3
    omega
