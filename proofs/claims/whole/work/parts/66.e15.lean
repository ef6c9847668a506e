/-! where marks are needed: both sides -/
theorem anyB_congr {P Q : Nat → Bool} : ∀ n, (∀ i, i < n → P i = Q i) → anyB P n = anyB Q n
  | 0, _ => rfl
  | n + 1, h => by rw [anyB, anyB, anyB_congr n (fun i hi => h i (by omega)), h n (by omega)]
theorem mJo_xx {N : TN} {x : Int32} : ∀ n, mJo N x x n = -1
  | 0 => rfl
  | n + 1 => by rw [mJo, if_neg (fun z => z.2.2 rfl), mJo_xx n]
theorem mJo_sym {N : TN} {x y : Int32} : ∀ n, mJo N x y n = mJo N y x n
  | 0 => rfl
  | n + 1 => by
    rw [mJo, mJo, mJo_sym n]
    by_cases h : mAt N (nI n) x = true ∧ mAt N (nI n) y = true ∧ ¬ x = y
    · rw [if_pos h, if_pos ⟨h.2.1, h.1, fun z => h.2.2 z.symm⟩]
    · rw [if_neg h, if_neg (fun z => h ⟨z.2.1, z.1, fun w => z.2.2 w.symm⟩)]
theorem jo_eq2 {N : TN} {pb : Nat → Int32} (hN : N_n N ≤ 16) (hB : PBi N pb) (hU : UQi N) {x y : Nat} (hx : x < 10) (hy : y < 10) : jJo pb (nI x) (nI y) = mJo N (nI x) (nI y) (N_n N) := by
  by_cases h : nI x = nI y
  · have hb : jBo pb (nI x) (nI y) = 0 := if_pos h
    rw [h, mJo_xx]
    unfold jJo
    rw [show jBo pb (nI y) (nI y) = 0 from if_pos rfl, if_pos rfl]
  · exact jo_eq hN hB hU hx hy h
theorem jo_out {pb : Nat → Int32} {p : Nat} (hp : p < 10) : jJo pb (nI p) (-1) = -1 := by
  have hb : jBo pb (nI p) (-1) = 0 := by
    unfold jBo
    rw [if_neg (nI_nm1 (by omega)), show zPb pb (-1) = 0 from if_neg (by decide)]
    exact bt_ext (fun i _ => by rw [bt_and, bt_0, Bool.and_false])
  unfold jJo
  rw [hb, if_pos rfl]
theorem oe_eq {N : TN} (hN : N_n N ≤ 16) {i : Nat} (hi : i < N_n N) (x : Int32) : jOE N x (nI i) = mOE N i x := by
  obtain ⟨sd, s1, s2, s3⟩ := arc_eq hN hi x
  unfold jOE
  rw [s2, end_eq hN hi s1, s3]
/-- a place of a row, or none -/
theorem rgn {n : Nat} (hn : n < 2 ^ 30) (f : Nat → Int32) (x : Int32) : (∃ i, i < n ∧ x = nI i ∧ (0 ≤ x ∧ x ≤ nI n - 1)) ∨ (¬ (0 ≤ x ∧ x ≤ nI n - 1) ∧ rg n f x = -1) := by
  rcases pk_ix x (show n < 2 ^ 31 by omega) with h | h | ⟨j, hj, e⟩
  · exact Or.inr ⟨fun z => absurd z.1 (Int32.not_le.mpr h), rg_neg h⟩
  · refine Or.inr ⟨fun z => ?_, rg_ge h⟩
    obtain ⟨j, hj, e⟩ := ix_of z (by omega)
    rw [e, nI_leI (by omega) (by omega)] at h
    omega
  · refine Or.inl ⟨j, hj, e, ?_⟩
    rw [e, show nI n - 1 = nI (n - 1) from pk_sub (a := n) (b := 1) (by omega), nI_leI (by omega) (by omega)]
    exact ⟨nI_pos' (by omega), by omega⟩
/-- the route's places; each joined to the next -/
def RPi (ro : TR) : Prop := ∀ i, i < ro.1 → ∃ p : Nat, p < 10 ∧ ro.2.1 i = nI p
def RJi (N : TN) (ro : TR) : Prop := ∀ i, i + 1 < ro.1 → ¬ mJo N (ro.2.1 i) (ro.2.1 (i + 1)) (N_n N) = -1
theorem nI_m1e {k i : Nat} (hk : k < 2 ^ 30) (hi : i < 2 ^ 30) (h : nI k + (-1) = nI i) : k = i + 1 := by
  cases k with
  | zero => exact absurd h.symm (nI_nm1 (by omega))
  | succ k =>
    rw [pk_m1, nI_eq (by omega) (by omega)] at h
    omega
theorem step_adj {k i : Nat} (hk : k < 2 ^ 30) (hi : i < 2 ^ 30) {y : Int32} (hy : y = 1 ∨ y = -1) (h : nI k + y = nI i) : i = k + 1 ∨ k = i + 1 := by
  rcases hy with e | e <;> subst e
  · rw [nI_1, nI_eq (by omega) (by omega)] at h; exact Or.inl h.symm
  · exact Or.inr (nI_m1e hk hi h)
section ZN
variable {S : TS} {sb : Nat → Int32} {q : TQ} {N : TN} {pb : Nat → Int32} {ro : TR}
theorem hm_eq (hN : N_n N ≤ 16) (hP : PBi N pb) (hE : NE N) {i : Nat} (hi : i < N_n N) {x : Int32} : jHm N pb ro x (nI i) = mHm N ro i x := by
  obtain ⟨a, ha, ea⟩ := mOE_ne hE hi x
  unfold jHm mHm
  rw [oe_eq hN hi, ea, zPb_pl hP ha, zbt_n (by omega), rg_in hi (show N_n N < 2 ^ 31 by omega), Bool.eq_iff_iff, decide_eq_true_eq, decide_eq_true_eq]
  exact And.comm
theorem mw_dg (hN : N_n N ≤ 16) (hP : PBi N pb) (hE : NE N) {p u : Nat} (hp : p < 10) {c : Int32} (hc : mCm N c) (hu : u < N_n N) : jMw N pb ro (nI p) c (nI u) = anyB (fun i => decide (mAt N (nI i) (nI p) = true ∧ ¬ nI i = c ∧ ¬ nI i = nI u ∧ ¬ mHm N ro i (nI p) = true)) (N_n N) := by
  unfold jMw
  refine anyB_congr _ (fun i hi => ?_)
  unfold jWr
  rw [op_eq hN hP hc hp, zbt_n (show u < 16 by omega), zbt_n (show i < 16 by omega), hm_eq hN hP hE hi, Bool.eq_iff_iff, decide_eq_true_eq, decide_eq_true_eq, and_ne (by omega), bt_and, bt_not (by omega), bt_sh (by omega) (by omega), bt_Op hN hc hi, nI_eq (by omega) (by omega), Bool.and_eq_true, decide_eq_true_eq, Bool.not_eq_true', decide_eq_false_iff_not]
  exact ⟨fun z => ⟨z.1.1.1, z.1.1.2, fun w => z.1.2 w.symm, z.2⟩, fun z => ⟨⟨⟨z.1, z.2.1⟩, fun w => z.2.2.1 w.symm⟩, z.2.2.2⟩⟩
theorem cv_nI (hN : N_n N ≤ 16) (hS : S_n S ≤ 24) (hV : PVi N S) (x k : Int32) {u : Nat} (hu : u < 2 ^ 31) : cv (mGo S q N x k) = nI u ↔ mGo S q N x k = nI u := by
  have hn : ∀ z : Int32, z < 0 → ¬ z = nI u := fun z h e => absurd h (by rw [e]; exact nI_pos hu)
  rcases go_sp (k := k) (q := q) hN hS hV x with e | e | e | ⟨j, hj, e⟩ <;> rw [e]
  · exact Iff.rfl
  · exact ⟨fun z => absurd z (hn _ (by decide)), fun z => absurd z (hn _ (by decide))⟩
  · exact ⟨fun z => absurd z (hn _ (by decide)), fun z => absurd z (hn _ (by decide))⟩
  · rw [cv_n (by omega)]
theorem nd_eq (hN : N_n N ≤ 16) (hS : S_n S ≤ 24) (hP : PBi N pb) (hU : UQi N) (hB : SBi S sb) (hK : KDi S) (hD : DMi S) (hV : PVi N S) (hE : NE N) (hr : ro.1 ≤ 10) (hR : RPi ro) (hJ : RJi N ro) {y : Int32} (hy : y = 1 ∨ y = -1) : ∀ k, k ≤ ro.1 → mNd S q N ro y k = jMk S sb q N pb ro y k
  | 0, _ => rfl
  | k + 1, h => by
    rw [mNd, jMk, nd_eq hN hS hP hU hB hK hD hV hE hr hR hJ hy k (by omega)]
    obtain ⟨p, hp, ep⟩ := hR k (by omega)
    have hc : jMc pb ro y k = mCo9 N (mNb ro y k) (ro.2.1 k) := by
      unfold jMc mCo9 mNb
      rcases rgn (show ro.1 < 2 ^ 30 by omega) ro.2.1 (nI k - y) with ⟨i, hi, ei, hin⟩ | ⟨hout, hrg⟩
      · obtain ⟨p2, hp2, ep2⟩ := hR i hi
        rw [if_pos hin, ei, rg_in hi (by omega), nI_cl (by omega), ep, ep2, if_neg (nI_nm1 (by omega)), mJo_sym, jo_eq2 hN hP hU hp hp2]
      · rw [if_neg hout, if_pos rfl, hrg, ep, jo_out hp]
    have hcm : mCm N (mCo9 N (mNb ro y k) (ro.2.1 k)) := by
      unfold mCo9
      split
      · exact Or.inl rfl
      · rcases mJo_sp (N := N) (x := mNb ro y k) (y := ro.2.1 k) (N_n N) with ⟨z, -⟩ | ⟨i, z1, z2, -⟩
        · exact Or.inl z
        · exact Or.inr ⟨i, z1, z2⟩
    rcases rgn (show ro.1 < 2 ^ 30 by omega) ro.2.1 (nI k + y) with ⟨i, hi, ei, hin⟩ | ⟨hout, hrg⟩
    · obtain ⟨p2, hp2, ep2⟩ := hR i hi
      have hmr : jMr pb ro y k = mJo N (ro.2.1 k) (ro.2.1 i) (N_n N) := by
        unfold jMr
        rw [ei, rg_in hi (by omega), ep, ep2, jo_eq2 hN hP hU hp hp2]
      have hne : ¬ mJo N (ro.2.1 k) (ro.2.1 i) (N_n N) = -1 := by
        rcases step_adj (show k < 2 ^ 30 by omega) (show i < 2 ^ 30 by omega) hy ei with w | w
        · subst w; exact hJ k hi
        · subst w; rw [mJo_sym]; exact hJ i (by omega)
      rw [if_pos hin, hmr, hc, ei, nI_cl (by omega)]
      unfold mNe
      obtain ⟨u, hu, eu⟩ : ∃ u, u < N_n N ∧ mJo N (ro.2.1 k) (ro.2.1 i) (N_n N) = nI u := by
        rcases mJo_sp (N := N) (x := ro.2.1 k) (y := ro.2.1 i) (N_n N) with ⟨z, -⟩ | ⟨v, z1, z2, -⟩
        · exact absurd z hne
        · exact ⟨v, z1, z2⟩
      have hdg : anyB (mDg N ro (mNb ro y k) (ro.2.1 k) (ro.2.1 i)) (N_n N) = jMw N pb ro (ro.2.1 k) (mCo9 N (mNb ro y k) (ro.2.1 k)) (nI u) := by
        rw [ep] at hcm eu ⊢
        rw [mw_dg hN hP hE hp hcm hu]
        refine anyB_congr _ (fun v hv => ?_)
        unfold mDg
        rw [eu]
      have hgo : jCh S sb q N pb (ro.2.1 k) (mCo9 N (mNb ro y k) (ro.2.1 k)) = nI u ↔ mGo S q N (ro.2.1 k) (mCo9 N (mNb ro y k) (ro.2.1 k)) = nI u := by
        rw [show jCh S sb q N pb (ro.2.1 k) (mCo9 N (mNb ro y k) (ro.2.1 k)) = cv (mGo S q N (ro.2.1 k) (mCo9 N (mNb ro y k) (ro.2.1 k))) from by
          rw [ep] at hcm ⊢; exact ch_go hN hS hP hB hK hD hV hcm hp]
        exact cv_nI hN hS hV _ _ (by omega)
      rw [eu] at hne ⊢
      rw [hdg]
      by_cases hh : jMw N pb ro (ro.2.1 k) (mCo9 N (mNb ro y k) (ro.2.1 k)) (nI u) = true ∧ ¬ mGo S q N (ro.2.1 k) (mCo9 N (mNb ro y k) (ro.2.1 k)) = nI u
      · rw [if_pos (decide_eq_true hh), if_pos ⟨hne, hh.1, fun z => hh.2 (hgo.mp z)⟩]
      · rw [if_neg (fun z => hh (of_decide_eq_true z)), if_neg (fun z => hh ⟨z.2.1, fun w => z.2.2 (hgo.mpr w)⟩)]
        exact bt_ext (fun v _ => by rw [bt_or, bt_0, Bool.or_false])
    · have hmr : jMr pb ro y k = -1 := by
        unfold jMr
        rw [hrg, ep, jo_out hp]
      rw [if_neg hout, if_neg (fun z => z.1 hmr)]
theorem e_needed {x : Int32} (hN : N_n N ≤ 16) (hS : S_n S ≤ 24) (hP : PBi N pb) (hU : UQi N) (hB : SBi S sb) (hK : KDi S) (hD : DMi S) (hV : PVi N S) (hE : NE N) (hr : ro.1 ≤ 10) (hR : RPi ro) (hJ : RJi N ro) : mXneeded S q N ro x = jXneeded S sb q N pb ro x := by
  unfold mXneeded jXneeded
  by_cases h1 : 0 ≤ x ∧ x ≤ 1
  · rw [if_pos h1, if_pos h1]
    unfold jMn
    refine nd_eq hN hS hP hU hB hK hD hV hE hr hR hJ ?_ _ (Nat.le_refl _)
    by_cases h : x = 0
    · exact Or.inl (if_pos h)
    · exact Or.inr (if_neg h)
  · rw [if_neg h1, if_neg h1]
end ZN
