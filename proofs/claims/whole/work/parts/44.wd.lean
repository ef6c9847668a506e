theorem mWm_congr {N : TN} {o : TO} {n : Nat} {f g : Nat → Int32} {p y : Int32} (h : ∀ x, 170 * (n + 1) ≤ x → f x = g x) : ∀ i, mWm N o n f p y i = mWm N o n g p y i
  | 0 => rfl
  | i + 1 => by rw [mWm, mWm, mWm_congr h i, h _ (by omega)]
theorem mWv_congr {S : TS} {q : TQ} {N : TN} {o : TO} {n : Nat} {f g : Nat → Int32} (h : ∀ x, 170 * (n + 1) ≤ x → f x = g x) (i : Nat) : mWv S q N o n f i = mWv S q N o n g i := by
  unfold mWv; rw [mWm_congr h]
theorem mWn_out {S : TS} {q : TQ} {N : TN} {o : TO} {n : Nat} {f : Nat → Int32} : ∀ k x, (x < 170 * n ∨ 170 * n + k ≤ x) → mWn S q N o n f k x = f x
  | 0, _, _ => rfl
  | k + 1, x, h => by rw [mWn, pk_un (show x ≠ 170 * n + k by omega), mWn_out k x (by omega)]
theorem mWn_at {S : TS} {q : TQ} {N : TN} {o : TO} {n : Nat} {f : Nat → Int32} : ∀ k i, i < k → k ≤ 170 → mWn S q N o n f k (170 * n + i) = mWv S q N o n (mWn S q N o n f 170) i
  | 0, _, h, _ => absurd h (Nat.not_lt_zero _)
  | k + 1, i, h, hk => by
    rw [mWn]
    by_cases e : i = k
    · subst e; rw [pk_us]; exact mWv_congr (fun x hx => by rw [mWn_out _ x (by omega), mWn_out _ x (by omega)]) _
    · rw [pk_un (show 170 * n + i ≠ 170 * n + k by omega)]; exact mWn_at k i (by omega) (by omega)
theorem mWd_fx {S : TS} {q : TQ} {N : TN} {o : TO} {f : Nat → Int32} : ∀ d, d ≤ o.1 → ∀ n, o.1 - d ≤ n → n < o.1 → ∀ i, i < 170 → mWd S q N o f d (170 * n + i) = mWv S q N o n (mWd S q N o f d) i
  | 0, _, n, h1, h2, _, _ => by omega
  | d + 1, hd, n, h1, h2, i, hi => by
    rw [mWd]
    by_cases e : n = o.1 - 1 - d
    · subst e; exact mWn_at 170 i hi (Nat.le_refl _)
    · rw [mWn_out 170 _ (by omega), mWd_fx d (by omega) n (by omega) h2 i hi]
      exact mWv_congr (fun x hx => (mWn_out 170 x (by omega)).symm) _
theorem mWd_fix {S : TS} {q : TQ} {N : TN} {o : TO} {f : Nat → Int32} {n i : Nat} (hn : n < o.1) (hi : i < 170) : mWd S q N o f o.1 (170 * n + i) = mWv S q N o n (mWd S q N o f o.1) i :=
  mWd_fx o.1 (Nat.le_refl _) n (by omega) hn i hi
theorem mWm_b {N : TN} {o : TO} {n : Nat} {f : Nat → Int32} {p y : Int32} {b9 : Nat} (hNE : NE N) (hN : N_n N ≤ 16) (hn : ¬ n + 1 = o.1) (hf : ∀ x, x < 170 → ∃ v : Nat, f (170 * (n + 1) + x) = nI v ∧ v ≤ b9) : ∀ i, i ≤ N_n N → ∃ v : Nat, mWm N o n f p y i = nI v ∧ v ≤ i * b9
  | 0, _ => ⟨0, by rw [mWm, if_neg hn]; rfl, by omega⟩
  | i + 1, hi => by
    obtain ⟨v, h1, h2⟩ := mWm_b hNE hN hn hf (p := p) (y := y) i (by omega)
    obtain ⟨a, ha, ea⟩ := mOE_ne hNE (show i < N_n N by omega) p
    obtain ⟨w, h3, h4⟩ := hf (17 * a + i) (by omega)
    rw [mWm, if_neg hn, h1]
    have hs : (i + 1) * b9 = i * b9 + b9 := Nat.succ_mul i b9
    split
    · exact ⟨v + w, by rw [ea, nI_cl (by omega), Nat.add_assoc, h3, nI_add], by omega⟩
    · exact ⟨v, by rw [show (0 : Int32) = nI 0 from rfl, nI_add, Nat.add_zero], by omega⟩
theorem mWd_b {S : TS} {q : TQ} {N : TN} {o : TO} {f : Nat → Int32} (hNE : NE N) (hN : N_n N ≤ 16) : ∀ d n, n + 1 + d = o.1 → ∀ i, i < 170 → ∃ v : Nat, mWd S q N o f o.1 (170 * n + i) = nI v ∧ v ≤ 16 ^ d
  | 0, n, h, i, hi => by
    rw [mWd_fix (by omega) hi]
    unfold mWv
    split
    · exact ⟨1, by rw [mWm_1 (by omega)]; rfl, Nat.le_refl _⟩
    · exact ⟨0, rfl, by decide⟩
  | d + 1, n, h, i, hi => by
    rw [mWd_fix (by omega) hi]
    unfold mWv
    split
    · obtain ⟨v, h1, h2⟩ := mWm_b (p := nI (i / 17)) (y := mPth i) (f := mWd S q N o f o.1) (b9 := 16 ^ d) hNE hN (show ¬ n + 1 = o.1 by omega) (fun x hx => mWd_b hNE hN d (n + 1) (by omega) x hx) (N_n N) (Nat.le_refl _)
      exact ⟨v, h1, Nat.le_trans h2 (by rw [Nat.pow_succ, Nat.mul_comm]; exact Nat.mul_le_mul_left _ hN)⟩
    · exact ⟨0, rfl, Nat.zero_le _⟩
theorem mWm_pos {N : TN} {o : TO} {n : Nat} {f : Nat → Int32} {p y : Int32} (hNE : NE N) (hN : N_n N ≤ 16) (hn : ¬ n + 1 = o.1) (hf : ∀ x, x < 170 → ∃ v : Nat, f (170 * (n + 1) + x) = nI v ∧ v < 2 ^ 31) : ∀ i, i ≤ N_n N → (∀ u, u < i → ¬ (mMy N p y (nI u) = true ∧ 0 < f (170 * (n + 1) + 17 * (mOE N u p).toNatClampNeg + u))) → mWm N o n f p y i = 0
  | 0, _, _ => by rw [mWm, if_neg hn]
  | i + 1, hi, h => by
    rw [mWm, if_neg hn, mWm_pos hNE hN hn hf i (by omega) (fun u hu => h u (by omega))]
    split
    · rename_i h1
      obtain ⟨a, ha, ea⟩ := mOE_ne hNE (show i < N_n N by omega) p
      obtain ⟨v, h3, h4⟩ := hf (17 * a + i) (by omega)
      have h5 := h i (by omega)
      rw [ea, nI_cl (by omega), Nat.add_assoc, h3] at h5 ⊢
      rcases Nat.eq_zero_or_pos v with h6 | h6
      · subst h6; rfl
      · exact absurd ⟨h1, by rw [show (0 : Int32) = nI 0 from rfl, nI_ltI (by decide) h4]; exact h6⟩ h5
    · rfl
def mNx (N : TN) (f : Nat → Int32) (n : Nat) (p y : Int32) : Nat → Int32
  | 0 => -1
  | i + 1 => if mMy N p y (nI i) = true ∧ 0 < f (170 * (n + 1) + 17 * (mOE N i p).toNatClampNeg + i) then nI i else mNx N f n p y i
theorem mNx_sp {N : TN} {f : Nat → Int32} {n : Nat} {p y : Int32} : ∀ i, (mNx N f n p y i = -1 ∧ ∀ u, u < i → ¬ (mMy N p y (nI u) = true ∧ 0 < f (170 * (n + 1) + 17 * (mOE N u p).toNatClampNeg + u))) ∨ ∃ u, u < i ∧ mNx N f n p y i = nI u ∧ mMy N p y (nI u) = true ∧ 0 < f (170 * (n + 1) + 17 * (mOE N u p).toNatClampNeg + u)
  | 0 => Or.inl ⟨rfl, fun _ h => absurd h (Nat.not_lt_zero _)⟩
  | i + 1 => by
    rw [mNx]
    split
    · rename_i h; exact Or.inr ⟨i, by omega, rfl, h.1, h.2⟩
    · rename_i h
      rcases mNx_sp (N := N) (f := f) (n := n) (p := p) (y := y) i with ⟨h1, h2⟩ | ⟨u, h1, h2⟩
      · refine Or.inl ⟨h1, fun u hu => ?_⟩
        by_cases e : u = i
        · subst e; exact h
        · exact h2 u (by omega)
      · exact Or.inr ⟨u, by omega, h2⟩
def mOn (N : TN) (f : Nat → Int32) (j : Nat) : Nat → Nat
  | 0 => 17 * j + 16
  | n + 1 => 17 * (mOE N (mNx N f n (nI (mOn N f j n / 17)) (mPth (mOn N f j n)) (N_n N)).toNatClampNeg (nI (mOn N f j n / 17))).toNatClampNeg + (mNx N f n (nI (mOn N f j n / 17)) (mPth (mOn N f j n)) (N_n N)).toNatClampNeg
/-- there is a next one -/
theorem mWd_next {S : TS} {q : TQ} {N : TN} {o : TO} {f : Nat → Int32} {n i : Nat} (ho8 : o.1 ≤ 8) (hNE : NE N) (hN : N_n N ≤ 16) (hn : n + 1 < o.1) (hi : i < 170) (h : 0 < mWd S q N o f o.1 (170 * n + i)) :
    ∃ u, u < N_n N ∧ mNx N (mWd S q N o f o.1) n (nI (i / 17)) (mPth i) (N_n N) = nI u ∧ 0 < mWd S q N o f o.1 (170 * (n + 1) + 17 * (mOE N u (nI (i / 17))).toNatClampNeg + u) := by
  rcases mNx_sp (N := N) (f := mWd S q N o f o.1) (n := n) (p := nI (i / 17)) (y := mPth i) (N_n N) with ⟨h1, h2⟩ | ⟨u, h1, h2, h3, h4⟩
  · exfalso
    rw [mWd_fix (by omega) hi] at h
    unfold mWv at h
    split at h
    · rw [mWm_pos hNE hN (by omega) (fun x hx => by
        obtain ⟨v, h5, h6⟩ := mWd_b (S := S) (q := q) (o := o) (f := f) hNE hN (o.1 - 1 - (n + 1)) (n + 1) (by omega) x hx
        exact ⟨v, h5, Nat.lt_of_le_of_lt h6 (Nat.lt_of_le_of_lt (Nat.pow_le_pow_right (by decide) (show o.1 - 1 - (n + 1) ≤ 6 by omega)) (by decide))⟩) (N_n N) (Nat.le_refl _) h2] at h
      exact absurd h (by decide)
    · exact absurd h (by decide)
  · exact ⟨u, h1, h2, h4⟩
