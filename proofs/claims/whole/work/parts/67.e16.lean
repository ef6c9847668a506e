/-! trails: both sides -/
theorem fstB_sp {P : Nat → Bool} : ∀ n, n < 2 ^ 31 → (fstB P n = -1 ∧ ∀ i, i < n → ¬ P i = true) ∨ ∃ i, i < n ∧ fstB P n = nI i ∧ P i = true ∧ ∀ j, j < i → ¬ P j = true
  | 0, _ => Or.inl ⟨rfl, fun _ h => absurd h (Nat.not_lt_zero _)⟩
  | n + 1, hn => by
    rw [fstB]
    rcases fstB_sp (P := P) n (by omega) with ⟨h1, h2⟩ | ⟨i, h1, h2, h3⟩
    · rw [if_pos h1]
      by_cases h : P n = true
      · rw [if_pos h]; exact Or.inr ⟨n, by omega, rfl, h, h2⟩
      · rw [if_neg h]
        refine Or.inl ⟨rfl, fun i hi => ?_⟩
        by_cases e : i = n
        · subst e; exact h
        · exact h2 i (by omega)
    · rw [h2, if_neg (nI_nm1 (by omega))]
      exact Or.inr ⟨i, by omega, rfl, h3⟩
theorem hasB_any {f : Nat → Int32} {v : Int32} : ∀ n, hasB f v n = anyB (fun i => decide (f i = v)) n
  | 0 => rfl
  | n + 1 => by rw [hasB, anyB, hasB_any n]
theorem hasB_ex {f : Nat → Int32} {v : Int32} (n : Nat) : hasB f v n = true ↔ ∃ i, i < n ∧ f i = v := by
  rw [hasB_any, anyB_iff]
  constructor
  · rintro ⟨i, h1, h2⟩; exact ⟨i, h1, of_decide_eq_true h2⟩
  · rintro ⟨i, h1, h2⟩; exact ⟨i, h1, decide_eq_true h2⟩
/-- sizes of trails; their places, unlike and joined; false or true -/
def TZi (t : TT) (zf : Nat → Nat) : Prop := ∀ i, i < t.1 → t.2.2.1 i = nI (zf i) ∧ zf i ≤ 6
def TPi (t : TT) (zf : Nat → Nat) : Prop := ∀ i, i < t.1 → ∀ j, j < zf i → ∃ p : Nat, p < 10 ∧ t.2.1 (6 * i + j) = nI p
def TDi (t : TT) (zf : Nat → Nat) : Prop := ∀ i, i < t.1 → ∀ j k, j < zf i → k < zf i → t.2.1 (6 * i + j) = t.2.1 (6 * i + k) → j = k
def TJi (N : TN) (t : TT) (zf : Nat → Nat) : Prop := ∀ tt, tt < t.1 → ∀ k9, 1 ≤ k9 → k9 < zf tt → ¬ mJk N t tt k9 = -1
def TFi (t : TT) : Prop := ∀ i, i < t.1 → t.2.2.2.1 i = 0 ∨ t.2.2.2.1 i = 1
section ZT
variable {N : TN} {pb : Nat → Int32} {t : TT} {zf : Nat → Nat} {ro : TR}
theorem pa_eq (ht : t.1 ≤ 6) (hz : TZi t zf) {tt j : Nat} (h : tt < t.1) (hj : j < zf tt) : jPA t (nI tt) (nI j) = t.2.1 (6 * tt + j) := by
  obtain ⟨h1, h2⟩ := hz tt h
  unfold jPA
  rw [rg_in h (by omega), h1, if_pos ⟨nI_pos' (by omega), by rw [nI_ltI (by omega) (by omega)]; exact hj⟩, show (6 : Int32) = nI 6 from rfl, pk_mul, nI_add, rg_in (by omega) (by decide), Nat.mul_comm tt 6]
theorem ix_sp (ht : t.1 ≤ 6) (hz : TZi t zf) {tt : Nat} (h : tt < t.1) (x : Int32) : (jIx t zf tt x = -1 ∧ ∀ i, i < zf tt → ¬ t.2.1 (6 * tt + i) = x) ∨ ∃ i, i < zf tt ∧ jIx t zf tt x = nI i ∧ t.2.1 (6 * tt + i) = x := by
  have hz6 := (hz tt h).2
  unfold jIx
  rcases fstB_sp (P := fun i => decide (jPA t (nI tt) (nI i) = x)) (zf tt) (by omega) with ⟨h1, h2⟩ | ⟨i, h1, h2, h3, -⟩
  · refine Or.inl ⟨h1, fun i hi z => h2 i hi ?_⟩
    exact decide_eq_true (by rw [pa_eq ht hz h hi]; exact z)
  · refine Or.inr ⟨i, h1, h2, ?_⟩
    have h9 := of_decide_eq_true h3
    rw [pa_eq ht hz h h1] at h9
    exact h9
theorem e_add {x y : Int32} (hN : N_n N ≤ 16) (hB : PBi N pb) (hU : UQi N) (ht : t.1 ≤ 6) (hz : TZi t zf) (hz1 : ∀ i, i < t.1 → 1 ≤ zf i) (hP : TPi t zf) : mXadd N t zf x y = jXadd pb t zf x y := by
  unfold mXadd jXadd
  by_cases h1 : 0 ≤ x ∧ x ≤ nI t.1 - 1
  · rw [if_pos h1, if_pos h1]
    obtain ⟨tt, htt, ex⟩ := ix_of h1 (by omega)
    subst ex
    rw [nI_cl (show tt < 2 ^ 31 by omega)]
    have h6 := (hz tt htt).2
    have h16 := hz1 tt htt
    by_cases h2 : 0 ≤ y ∧ y ≤ 9
    · rw [if_pos h2, if_pos h2]
      obtain ⟨p, hp, ep⟩ := pl_of h2
      obtain ⟨p2, hp2, ep2⟩ := hP tt htt (zf tt - 1) (by omega)
      have hj : jJo pb (jPA t (nI tt) (nI (zf tt) - 1)) y = mJo N (t.2.1 (6 * tt + zf tt - 1)) y (N_n N) := by
        rw [show nI (zf tt) - 1 = nI (zf tt - 1) from pk_sub (a := zf tt) (b := 1) (by omega), pa_eq ht hz htt (by omega), show 6 * tt + zf tt - 1 = 6 * tt + (zf tt - 1) by omega, ep2, ep, jo_eq2 hN hB hU hp2 hp]
      by_cases h3 : hasB (fun i9 => t.2.1 (6 * tt + i9)) y (zf tt) = true
      · rw [if_pos h3, if_neg]
        intro z
        unfold jMt at z
        rw [decide_eq_true_eq] at z
        obtain ⟨i, hi, ei⟩ := (hasB_ex _).mp h3
        rcases ix_sp ht hz htt y with ⟨-, h4⟩ | ⟨i2, h4, h5, -⟩
        · exact h4 i hi ei
        · rw [h5] at z; exact nI_nm1 (by omega) z.1
      · rw [if_neg h3]
        have hix : jIx t zf tt y = -1 := by
          rcases ix_sp ht hz htt y with ⟨h4, -⟩ | ⟨i2, h4, -, h5⟩
          · exact h4
          · exact absurd ((hasB_ex (f := fun i9 => t.2.1 (6 * tt + i9)) _).mpr ⟨i2, h4, h5⟩) h3
        by_cases h4 : mJo N (t.2.1 (6 * tt + zf tt - 1)) y (N_n N) = -1
        · rw [if_pos h4, if_neg]
          intro z
          unfold jMt at z
          rw [decide_eq_true_eq, hj] at z
          exact z.2 h4
        · have hm : jMt pb t zf tt y = true := decide_eq_true ⟨hix, by rw [hj]; exact h4⟩
          rw [if_neg h4, if_pos hm, fl_eq (M := 6) (m9 := 6) rfl h6 (by decide), Nat.mul_comm 6 tt]
    · rw [if_neg h2, if_neg h2]
  · rw [if_neg h1, if_neg h1]
theorem b1_eq (ht : t.1 ≤ 6) (hz : TZi t zf) {tt : Nat} (h : tt < t.1) : ∀ n, n ≤ zf tt → mB1 t ro tt n = mB0 t ro tt ||| (if anyB (fun i => decide (1 ≤ i ∧ hasB ro.2.1 (jPA t (nI tt) (nI i)) ro.1 = true)) n = true then 2 else 0)
  | 0, _ => by rw [mB1, anyB, if_neg Bool.false_ne_true]; exact bt_ext (fun v _ => by rw [bt_or, bt_0, Bool.or_false])
  | n + 1, hn => by
    rw [mB1, anyB, pa_eq ht hz h (show n < zf tt by omega)]
    by_cases e : n = 0
    · subst e
      rw [if_pos rfl, anyB, if_neg (by simp)]
      exact bt_ext (fun v _ => by rw [bt_or, bt_0, Bool.or_false])
    · rw [if_neg e, b1_eq ht hz h n (by omega)]
      refine bt_ext (fun v _ => ?_)
      rw [bt_or, bt_or, bt_or, Bool.or_assoc]
      by_cases h1 : hasB ro.2.1 (t.2.1 (6 * tt + n)) ro.1 = true
      · rw [if_pos h1, if_pos (show (anyB (fun i => decide (1 ≤ i ∧ hasB ro.2.1 (jPA t (nI tt) (nI i)) ro.1 = true)) n || decide (1 ≤ n ∧ hasB ro.2.1 (t.2.1 (6 * tt + n)) ro.1 = true)) = true from by rw [decide_eq_true ⟨by omega, h1⟩, Bool.or_true])]
        split
        · rw [Bool.or_self]
        · rw [bt_0, Bool.false_or]
      · rw [if_neg h1, decide_eq_false (fun z => h1 z.2), Bool.or_false, bt_0, Bool.or_false]
theorem b2_eq (hN : N_n N ≤ 16) (hB : PBi N pb) (hU : UQi N) (ht : t.1 ≤ 6) (hz : TZi t zf) (hP : TPi t zf) (hJ : TJi N t zf) {tt : Nat} (h : tt < t.1) : ∀ n, n ≤ zf tt → mB2 N t tt n = jWl N pb t tt n
  | 0, _ => rfl
  | n + 1, hn => by
    rw [mB2, jWl, b2_eq hN hB hU ht hz hP hJ h n (by omega)]
    by_cases e : n = 0
    · rw [if_pos e, if_pos e]
    · rw [if_neg e, if_neg e]
      have h6 := (hz tt h).2
      obtain ⟨p1, hp1, e1⟩ := hP tt h (n - 1) (by omega)
      obtain ⟨p2, hp2, e2⟩ := hP tt h n (by omega)
      have hj : jJo pb (jPA t (nI tt) (nI n - 1)) (jPA t (nI tt) (nI n)) = mJk N t tt n := by
        unfold mJk
        rw [show nI n - 1 = nI (n - 1) from pk_sub (a := n) (b := 1) (by omega), pa_eq ht hz h (by omega), pa_eq ht hz h (by omega), show 6 * tt + n - 1 = 6 * tt + (n - 1) by omega, e1, e2, jo_eq2 hN hB hU hp1 hp2]
      rw [hj]
      have hne := hJ tt h n (by omega) (by omega)
      unfold mJk at hne ⊢
      rcases mJo_sp (N := N) (x := t.2.1 (6 * tt + n - 1)) (y := t.2.1 (6 * tt + n)) (N_n N) with ⟨z, -⟩ | ⟨v, z1, z2, -⟩
      · exact absurd z hne
      · rw [z2, nI_cl (by omega), rg_in z1 (by omega)]
theorem cx_eq (ht : t.1 ≤ 6) (hz : TZi t zf) (hD : TDi t zf) {tt uu : Nat} (h : tt < t.1) (hu : uu < t.1) : jCx t zf tt uu = mDc t zf tt uu := by
  have h6 := (hz tt h).2
  have h7 := (hz uu hu).2
  unfold jCx mDc
  refine anyB_congr _ (fun i hi => ?_)
  rw [pa_eq ht hz h hi]
  unfold mXo
  rw [Bool.eq_iff_iff, decide_eq_true_eq, anyB_iff]
  have hp : ∀ n : Nat, n < 2 ^ 31 → ((0 < nI n) ↔ 0 < n) := fun n hn => by rw [show (0 : Int32) = nI 0 from rfl, nI_ltI (by decide) hn]
  have hq : ∀ n : Nat, n < 2 ^ 31 → ((nI n = 0) ↔ n = 0) := fun n hn => by rw [show (0 : Int32) = nI 0 from rfl, nI_eq hn (by decide)]
  have hmx : ∀ k, k < zf uu → (mX t tt uu i k = true ↔ t.2.1 (6 * tt + i) = t.2.1 (6 * uu + k) ∧ (0 < i ∨ 0 < k)) := fun k hk => by
    unfold mX
    rw [decide_eq_true_eq, hp i (by omega), hp k (by omega)]
  rcases ix_sp ht hz hu (t.2.1 (6 * tt + i)) with ⟨h1, h2⟩ | ⟨k, h1, h2, h3⟩
  · rw [h1]
    constructor
    · rintro (z | ⟨z, -⟩)
      · exact absurd z (by decide)
      · exact absurd z (by decide)
    · rintro ⟨k, k1, k2⟩
      exact absurd ((hmx k k1).mp k2).1.symm (h2 k k1)
  · rw [h2, hp k (by omega), hq k (by omega), hp i (by omega)]
    constructor
    · intro z
      exact ⟨k, h1, (hmx k h1).mpr ⟨h3.symm, by omega⟩⟩
    · rintro ⟨k2, k3, k4⟩
      obtain ⟨k5, k6⟩ := (hmx k2 k3).mp k4
      have : k2 = k := hD uu hu k2 k k3 h1 (by rw [← k5, h3])
      omega
theorem f4_eq (hN : N_n N ≤ 16) (hB : PBi N pb) (hU : UQi N) (ht : t.1 ≤ 6) (hz : TZi t zf) (hz1 : ∀ i, i < t.1 → 1 ≤ zf i) (hP : TPi t zf) (hD : TDi t zf) (hJ : TJi N t zf) (hF : TFi t) {tt : Nat} (h : tt < t.1) : ∀ u, u ≤ t.1 → mB4 N t zf ro tt u = jF4 N pb t zf ro tt u
  | 0, _ => by
    rw [mB4, jF4]
    unfold mB3 jF3 jCb
    rw [b1_eq ht hz h (zf tt) (Nat.le_refl _), b2_eq hN hB hU ht hz hP hJ h (zf tt) (Nat.le_refl _)]
    have h0 : jPA t (nI tt) 0 = t.2.1 (6 * tt) := by
      have h9 := pa_eq ht hz h (show 0 < zf tt from hz1 tt h)
      exact h9
    unfold mB0
    rw [h0]
  | u + 1, hu => by
    rw [mB4, jF4, f4_eq hN hB hU ht hz hz1 hP hD hJ hF h u (by omega), cx_eq ht hz hD h (show u < t.1 by omega), rg_in (show u < t.1 by omega) (by omega)]
    have h01 : (t.2.2.2.1 u = 1) ↔ ¬ t.2.2.2.1 u = 0 := by
      rcases hF u (by omega) with e | e <;> rw [e] <;> decide
    by_cases c : ¬ nI u = nI tt ∧ ¬ t.2.2.2.1 u = 0 ∧ mDc t zf tt u = true
    · rw [if_pos c, if_pos ⟨c.1, h01.mpr c.2.1, c.2.2⟩]
    · rw [if_neg c, if_neg (fun z => c ⟨z.1, h01.mp z.2.1, z.2.2⟩)]
theorem e_breaks {x : Int32} (hN : N_n N ≤ 16) (hB : PBi N pb) (hU : UQi N) (ht : t.1 ≤ 6) (hz : TZi t zf) (hz1 : ∀ i, i < t.1 → 1 ≤ zf i) (hP : TPi t zf) (hD : TDi t zf) (hJ : TJi N t zf) (hF : TFi t) : mXbreaks N t zf ro x = jXbreaks N pb t zf ro x := by
  unfold mXbreaks jXbreaks
  by_cases h1 : 0 ≤ x ∧ x ≤ nI t.1 - 1
  · rw [if_pos h1, if_pos h1]
    obtain ⟨tt, htt, ex⟩ := ix_of h1 (by omega)
    subst ex
    rw [nI_cl (show tt < 2 ^ 31 by omega)]
    unfold jFt
    rw [rg_in htt (by omega), f4_eq hN hB hU ht hz hz1 hP hD hJ hF htt t.1 (Nat.le_refl _)]
    rcases hF tt htt with e | e <;> rw [e]
    · rw [if_pos rfl, if_neg (by decide)]
    · rw [if_neg (by decide), if_pos rfl]
  · rw [if_neg h1, if_neg h1]
end ZT
