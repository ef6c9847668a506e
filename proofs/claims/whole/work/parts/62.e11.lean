theorem mFo_sp {fr : Int32} : ∀ n, n ≤ 16 → (mFo fr n = -1 ∧ ∀ i, i < n → ¬ fr = (1 : Int32) <<< (nI i &&& 31)) ∨ ∃ i, i < n ∧ mFo fr n = nI i ∧ fr = (1 : Int32) <<< (nI i &&& 31)
  | 0, _ => Or.inl ⟨rfl, fun _ h => absurd h (Nat.not_lt_zero _)⟩
  | n + 1, h => by
    rw [mFo]
    split
    · rename_i h1; exact Or.inr ⟨n, by omega, rfl, h1⟩
    · rename_i h1
      rcases mFo_sp (fr := fr) n (by omega) with ⟨h2, h3⟩ | ⟨i, h2, h3⟩
      · refine Or.inl ⟨h2, fun i hi => ?_⟩
        by_cases e : i = n
        · subst e; exact h1
        · exact h3 i (by omega)
      · exact Or.inr ⟨i, by omega, h3⟩
/-- the ends of a way: the class's numbers for the reference's -/
def cv (x : Int32) : Int32 := if x = -2 then -3 else if x = -3 then -2 else x
theorem cv_n {j : Nat} (h : j < 2 ^ 31) : cv (nI j) = nI j := by
  unfold cv
  have h0 : ¬ nI j < 0 := nI_pos h
  rw [if_neg (fun z => h0 (by rw [z]; decide)), if_neg (fun z => h0 (by rw [z]; decide))]
section ZC
variable {S : TS} {sb : Nat → Int32} {q : TQ} {N : TN} {pb : Nat → Int32} {p : Nat} {k : Int32}
theorem op_eq (hN : N_n N ≤ 16) (hP : PBi N pb) (hk : mCm N k) (hp : p < 10) : zPb pb (nI p) &&& (zbt k ^^^ (-1)) = mOp N (nI p) k := by
  unfold mOp
  rw [zPb_pl hP hp]
  rcases hk with e | ⟨j, hj, e⟩
  · subst e; rw [if_pos rfl]; rfl
  · subst e; rw [if_neg (nI_nm1 (by omega)), zbt_n (by omega)]
theorem op_hi (hN : N_n N ≤ 16) {i : Nat} (h : N_n N ≤ i) (hi : i < 32) (x : Int32) : bt (mOp N x k) i = false := by
  unfold mOp
  rw [bt_and, bt_PA _ hN i hi, decide_eq_false (fun z => absurd z.1 (by omega)), Bool.false_and]
/-- a choice among the open paths -/
theorem ca_fo (hN : N_n N ≤ 16) {x br : Int32} (h0 : ¬ mOp N x k = 0) : jCA (mOp N x k) br = mFo (mOp N x k &&& (br ^^^ (-1))) (N_n N) := by
  unfold jCA
  have hhi : ∀ i, N_n N ≤ i → i < 32 → bt (mOp N x k &&& (br ^^^ (-1))) i = false := fun i h1 h2 => by
    rw [bt_and, op_hi hN h1 h2, Bool.false_and]
  rcases mFo_sp (fr := mOp N x k &&& (br ^^^ (-1))) (N_n N) hN with ⟨h1, h2⟩ | ⟨i, h1, h2, h3⟩
  · rw [h1, if_neg, if_neg h0]
    intro z
    obtain ⟨i, hi, ei⟩ := bc_1 (fun i h3 h4 => hhi i (by omega) h4) z
    by_cases h9 : i < N_n N
    · exact h2 i h9 ei
    · have h8 := hhi i (by omega) (by omega)
      rw [ei, bt_sh (by omega) (by omega)] at h8
      simp at h8
  · rw [h2, h3, if_pos (b1_all ⟨i, by omega⟩)]
    exact bc_all ⟨i, by omega⟩
theorem ch_go (hN : N_n N ≤ 16) (hS : S_n S ≤ 24) (hP : PBi N pb) (hB : SBi S sb) (hK : KDi S) (hD : DMi S) (hV : PVi N S) (hk : mCm N k) (hp : p < 10) : jCh S sb q N pb (nI p) k = cv (mGo S q N (nI p) k) := by
  unfold jCh mGo
  rw [cmz_eq hN hS hB hK hk (S_n S) (Nat.le_refl _)]
  by_cases h1 : anyB (mKs (mSe S q N (nI p) k (S_n S)) S) (S_n S) = true
  · rw [if_pos h1, if_pos h1]; rfl
  · rw [if_neg h1, if_neg h1]
    rcases pt_la (sb := sb) (q := q) (p := nI p) hN hS hB hK hk hD (S_n S) (Nat.le_refl _) with ⟨h2, h3⟩ | ⟨i, hi, h2, h3, h4⟩
    · rw [h2, h3, if_pos rfl, if_neg (fun z => z rfl), op_eq hN hP hk hp]
      by_cases h0 : mOp N (nI p) k = 0
      · rw [if_pos h0, h0]
        have hz : ∀ br : Int32, jCA 0 br = -2 := fun br => by
          unfold jCA
          rw [show (0 : Int32) &&& (br ^^^ (-1)) = 0 from bt_ext (fun i _ => by rw [bt_and, bt_0, Bool.false_and]), if_neg (by decide), if_pos rfl]
        rw [hz]; rfl
      · rw [if_neg h0, ca_fo hN h0, fr_br hN hS hB hK hk hV (S_n S) (Nat.le_refl _)]
        rcases mFo_sp (fr := mOp N (nI p) k &&& (jBr S sb q N (nI p) k (S_n S) ^^^ (-1))) (N_n N) hN with ⟨h5, -⟩ | ⟨i, h5, h6, -⟩
        · rw [h5]; rfl
        · rw [h6, cv_n (by omega)]
    · obtain ⟨j, hj, ej⟩ := hV i hi (Or.inl h4)
      rw [h2, h3, ej, if_neg (nI_nm1 (by omega)), if_pos (nI_nm1 (by omega)), nI_cl (by omega), ej, cv_n (by omega)]
/-- what a walker may choose -/
theorem go_sp (hN : N_n N ≤ 16) (hS : S_n S ≤ 24) (hV : PVi N S) (x : Int32) : mGo S q N x k = -1 ∨ mGo S q N x k = -2 ∨ mGo S q N x k = -3 ∨ ∃ j : Nat, j < N_n N ∧ mGo S q N x k = nI j := by
  unfold mGo
  split
  · exact Or.inr (Or.inl rfl)
  · split
    · rename_i h
      have hl : ∀ n, n ≤ S_n S → mLa (mSe S q N x k (S_n S)) S n = -1 ∨ ∃ i, i < n ∧ mLa (mSe S q N x k (S_n S)) S n = nI i ∧ S_k S i = 0 := by
        intro n
        induction n with
        | zero => intro _; exact Or.inl rfl
        | succ n ih =>
          intro h9
          rw [mLa]
          split
          · rename_i h8; exact Or.inr ⟨n, by omega, rfl, h8.2.1⟩
          · rcases ih (by omega) with h8 | ⟨i, h8, h7⟩
            · exact Or.inl h8
            · exact Or.inr ⟨i, by omega, h7⟩
      rcases hl (S_n S) (Nat.le_refl _) with h1 | ⟨i, h1, h2, h3⟩
      · exact absurd h1 h
      · rw [h2, nI_cl (by omega)]
        exact Or.inr (Or.inr (Or.inr (hV i h1 (Or.inl h3))))
    · split
      · exact Or.inr (Or.inr (Or.inl rfl))
      · rcases mFo_sp (fr := mFr (mSe S q N x k (S_n S)) S (mOp N x k) (S_n S)) (N_n N) hN with ⟨h5, -⟩ | ⟨i, h5, h6, -⟩
        · exact Or.inl h5
        · exact Or.inr (Or.inr (Or.inr ⟨i, h5, h6⟩))
end ZC
