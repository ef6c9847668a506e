/-! who sees what: both sides -/
/-- a sign's two masks -/
def SBi (S : TS) (sb : Nat → Int32) : Prop := ∀ i, i < S_n S → (sb i = if S_t S i = 0 then S_y S i else S_y S i ||| 65536) ∧ ∀ j, 16 ≤ j → j < 32 → bt (S_y S i) j = false
/-- kinds -/
def KDi (S : TS) : Prop := ∀ i, i < S_n S → S_k S i = 0 ∨ S_k S i = 1 ∨ S_k S i = 2 ∨ S_k S i = 3
theorem hi_16 : (65536 : Int32) = (1 : Int32) <<< (nI 16 &&& 31) := by decide +kernel
theorem and_16 {x : Int32} : ((x &&& 65536) = 0) ↔ bt x 16 = false := by
  have h := bt_and_sh (x := x) (i := 16) (by decide)
  rw [← hi_16] at h
  exact h
theorem and_ne {x : Int32} {i : Nat} (hi : i < 32) : (¬ (x &&& ((1 : Int32) <<< (nI i &&& 31))) = 0) ↔ bt x i = true := by
  rw [bt_and_sh hi, Bool.not_eq_false]
theorem bt_16 {j : Nat} (h : j < 32) : bt 65536 j = decide (16 = j) := by
  rw [hi_16]; exact bt_sh (by decide) h
theorem kd_12 {x : Int32} (h : x = 0 ∨ x = 1 ∨ x = 2 ∨ x = 3) : (1 < x) ↔ ¬ (x = 0 ∨ x = 1) := by
  rcases h with rfl | rfl | rfl | rfl <;> decide
theorem sn_eq {S : TS} {sb : Nat → Int32} {q : TQ} {N : TN} {p k : Int32} {i : Nat} (hN : N_n N ≤ 16) (hS : S_n S ≤ 24) (hB : SBi S sb) (hK : KDi S) (hk : mCm N k) (hi : i < S_n S) : jSn S sb q N (nI i) p k = mSb S q N p k i := by
  obtain ⟨h1, h2⟩ := hB i hi
  unfold jSn mSb
  simp only [rg_in hi (show S_n S < 2 ^ 31 by omega)]
  rw [h1, Bool.eq_iff_iff, decide_eq_true_eq, decide_eq_true_eq, Int32.not_le]
  rcases hk with e | ⟨j, hj, e⟩
  · subst e
    rw [if_pos rfl, if_pos rfl]
    have h3 : (¬ ((if S_t S i = 0 then S_y S i else S_y S i ||| 65536) &&& 65536) = 0) ↔ ¬ S_t S i = 0 := by
      rw [and_16, Bool.not_eq_false]
      by_cases h : S_t S i = 0
      · rw [if_pos h, h2 16 (by decide) (by decide)]
        exact ⟨fun z => absurd z Bool.false_ne_true, fun z => absurd h z⟩
      · rw [if_neg h, bt_or, bt_16 (by decide)]
        exact ⟨fun _ => h, fun _ => by simp⟩
    rw [h3]
    exact ⟨fun z => ⟨z.1, z.2.1, z.2.2.1⟩, fun z => ⟨z.1, z.2.1, z.2.2, Or.inl rfl⟩⟩
  · subst e
    have hj16 : j < 16 := by omega
    have hn1 : ¬ nI j = -1 := nI_nm1 (by omega)
    rw [if_neg hn1, if_neg hn1, zbt_n hj16, and_ne (by omega), bt_tst (by omega), rg_in hj (show N_n N < 2 ^ 31 by omega), nI_cl (by omega), kd_12 (hK i hi)]
    have h3 : bt (if S_t S i = 0 then S_y S i else S_y S i ||| 65536) j = bt (S_y S i) j := by
      split
      · rfl
      · rw [bt_or, bt_16 (by omega), decide_eq_false (show ¬ 16 = j by omega), Bool.or_false]
    rw [h3]
    exact ⟨fun z => ⟨z.1, z.2.1, z.2.2.1, z.2.2.2.elim (fun z9 => absurd z9 hn1) id⟩, fun z => ⟨z.1, z.2.1, z.2.2.1, Or.inr z.2.2.2⟩⟩
theorem se_eq {S : TS} {sb : Nat → Int32} {q : TQ} {N : TN} {p k : Int32} (hN : N_n N ≤ 16) (hS : S_n S ≤ 24) (hB : SBi S sb) (hK : KDi S) (hk : mCm N k) : ∀ n, n ≤ S_n S → jAll S sb q N p k n = mSe S q N p k n
  | 0, _ => rfl
  | n + 1, h => by rw [jAll, mSe, se_eq hN hS hB hK hk n (by omega), sn_eq hN hS hB hK hk (by omega)]
theorem at_cm {N : TN} {k p : Int32} (hN : N_n N ≤ 16) (h : k = -1 ∨ mAt N k p = true) : mCm N k := h.elim Or.inl (fun z => Or.inr (mAt_bnd hN z))
theorem e_seen {N : TN} {S : TS} {sb pb : Nat → Int32} {q : TQ} {x y : Int32} (hN : N_n N ≤ 16) (hS : S_n S ≤ 24) (hP : PBi N pb) (hB : SBi S sb) (hK : KDi S) : mXseen S q N x y = jXseen S sb q N pb x y := by
  unfold mXseen jXseen
  by_cases h1 : 0 ≤ x ∧ x ≤ 9
  · rw [if_pos h1, if_pos h1]
    obtain ⟨p, hp, ep⟩ := pl_of h1
    have ht : jTo pb y x = mAt N y x := by rw [ep]; exact to_eq hN hP hp y
    rw [ht]
    by_cases h2 : ¬ y = -1 ∧ ¬ mAt N y x = true
    · rw [if_pos h2, if_pos h2]
    · rw [if_neg h2, if_neg h2]
      have hk : y = -1 ∨ mAt N y x = true := by
        by_cases h3 : y = -1
        · exact Or.inl h3
        · exact Or.inr (Classical.byContradiction fun z => h2 ⟨h3, z⟩)
      exact (se_eq hN hS hB hK (at_cm hN hk) _ (Nat.le_refl _)).symm
  · rw [if_neg h1, if_neg h1]
theorem k01 {x : Int32} : (x = 0 ∨ x = 1) ↔ (0 ≤ x ∧ x ≤ 1) := by
  constructor
  · rintro (rfl | rfl) <;> decide
  · intro z
    obtain ⟨j, hj, ej⟩ := nI_of2 (M := 1) (n := 1) (x := x) (by decide) (fun h9 => absurd h9 (Int32.not_lt.mpr z.1)) z.2
    rcases (show j = 0 ∨ j = 1 by omega) with rfl | rfl
    · exact Or.inl ej
    · exact Or.inr ej
theorem k03 {x : Int32} (z : 0 ≤ x ∧ x ≤ 3) : x = 0 ∨ x = 1 ∨ x = 2 ∨ x = 3 := by
  obtain ⟨j, hj, ej⟩ := nI_of2 (M := 3) (n := 3) (x := x) (by decide) (fun h9 => absurd h9 (Int32.not_lt.mpr z.1)) z.2
  rcases (show j = 0 ∨ j = 1 ∨ j = 2 ∨ j = 3 by omega) with rfl | rfl | rfl | rfl
  · exact Or.inl ej
  · exact Or.inr (Or.inl ej)
  · exact Or.inr (Or.inr (Or.inl ej))
  · exact Or.inr (Or.inr (Or.inr ej))
theorem jSv_03 {k v : Int32} (h : jSv k v = true) : 0 ≤ k ∧ k ≤ 3 := by
  unfold jSv at h
  rw [decide_eq_true_eq] at h
  rcases h with ⟨e, -⟩ | ⟨e, -⟩ | ⟨-, -, e | e⟩ <;> rw [e] <;> decide
theorem jSv_sp {k v : Int32} (h : k = 0 ∨ k = 1 ∨ k = 2 ∨ k = 3) : jSv k v = true ↔ ¬ (k = 2 ∧ ¬ (0 ≤ v ∧ v ≤ 9)) ∧ ¬ (k = 3 ∧ ¬ (0 ≤ v ∧ v ≤ 5)) := by
  unfold jSv
  rw [decide_eq_true_eq]
  rcases h with e | e | e | e <;> subst e
  · exact ⟨fun _ => ⟨fun z => absurd z.1 (by decide), fun z => absurd z.1 (by decide)⟩, fun _ => Or.inr (Or.inr ⟨by decide, by decide, Or.inl rfl⟩)⟩
  · exact ⟨fun _ => ⟨fun z => absurd z.1 (by decide), fun z => absurd z.1 (by decide)⟩, fun _ => Or.inr (Or.inr ⟨by decide, by decide, Or.inr rfl⟩)⟩
  · constructor
    · rintro (⟨-, z⟩ | ⟨z, -⟩ | ⟨z, -⟩)
      · exact ⟨fun w => w.2 z, fun w => absurd w.1 (by decide)⟩
      · exact absurd z (by decide)
      · exact absurd rfl z
    · intro z; exact Or.inl ⟨rfl, Classical.byContradiction fun w => z.1 ⟨rfl, w⟩⟩
  · constructor
    · rintro (⟨z, -⟩ | ⟨-, z⟩ | ⟨-, z, -⟩)
      · exact absurd z (by decide)
      · exact ⟨fun w => absurd w.1 (by decide), fun w => w.2 z⟩
      · exact absurd rfl z
    · intro z; exact Or.inr (Or.inl ⟨rfl, Classical.byContradiction fun w => z.2 ⟨rfl, w⟩⟩)
theorem e_sign {N : TN} {S : TS} {sb pb : Nat → Int32} {q : TQ} {y1 y2 y3 y4 y5 y6 : Int32} (hN : N_n N ≤ 16) (hS : S_n S ≤ 24) (hP : PBi N pb) : mXsign N S q y1 y2 y3 y4 y5 y6 = ((jXsign S sb q pb y1 y2 y3 y4 y5 y6).1, (jXsign S sb q pb y1 y2 y3 y4 y5 y6).2.1) := by
  unfold mXsign jXsign
  by_cases h1 : 0 ≤ y1 ∧ y1 ≤ 9
  · rw [if_pos h1, if_pos h1]
    obtain ⟨p, hp, ep⟩ := pl_of h1
    have ht : jTo pb y3 y1 = mAt N y3 y1 := by rw [ep]; exact to_eq hN hP hp y3
    have hz : zPb pb y1 = mPA N y1 (N_n N) := by rw [ep]; exact zPb_pl hP hp
    rw [ht, hz]
    by_cases h2 : (0 ≤ y2 ∧ y2 ≤ 1) ∧ ¬ mAt N y3 y1 = true
    · rw [if_pos h2, if_pos (show (y2 = 0 ∨ y2 = 1) ∧ ¬ mAt N y3 y1 = true from ⟨k01.mpr h2.1, h2.2⟩)]
    · rw [if_neg h2, if_neg (show ¬ ((y2 = 0 ∨ y2 = 1) ∧ ¬ mAt N y3 y1 = true) from fun z => h2 ⟨k01.mp z.1, z.2⟩)]
      by_cases h3 : 0 ≤ y2 ∧ y2 ≤ 3
      · rw [if_pos h3]
        by_cases h4 : y2 = 2 ∧ ¬ (0 ≤ y3 ∧ y3 ≤ 9)
        · rw [if_pos h4, if_neg (fun z => ((jSv_sp (k03 h3)).mp z).1 h4)]
        · rw [if_neg h4]
          by_cases h5 : y2 = 3 ∧ ¬ (0 ≤ y3 ∧ y3 ≤ 5)
          · rw [if_pos h5, if_neg (fun z => ((jSv_sp (k03 h3)).mp z).2 h5)]
          · rw [if_neg h5, if_pos ((jSv_sp (k03 h3)).mpr ⟨h4, h5⟩)]
            by_cases h6 : 1 ≤ y4 ∧ y4 ≤ 60
            · rw [if_pos h6, if_pos h6]
              by_cases h7 : (y5 &&& (mPA N y1 (N_n N) ^^^ (-1))) = 0
              · rw [if_pos h7, if_pos h7, fl_eq (M := 24) (m9 := 24) rfl hS (by decide)]
                by_cases h8 : nI (S_n S) < 24
                · rw [if_pos h8, if_pos h8]
                · rw [if_neg h8, if_neg h8]
              · rw [if_neg h7, if_neg h7]
            · rw [if_neg h6, if_neg h6]
      · rw [if_neg h3, if_neg (fun z => h3 (jSv_03 z))]
  · rw [if_neg h1, if_neg h1]
