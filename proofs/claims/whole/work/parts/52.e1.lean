/-! the class's answers and the reference's, side by side -/
theorem fl_eq {α : Type} {n M : Nat} {m9 : Int32} (hm : m9 = nI M) (h : n ≤ M) (hM : M < 2 ^ 31) (a b : α) : (if nI n = m9 then a else b) = (if nI n < m9 then b else a) := by
  subst hm
  by_cases q : n = M
  · rw [if_pos (by rw [q]), if_neg (by rw [q]; exact Int32.not_lt.mpr (Int32.le_refl _))]
  · rw [if_neg (fun z => q (by rw [nI_eq (by omega) hM] at z; exact z)), if_pos (by rw [nI_ltI (by omega) hM]; omega)]
theorem e_branch {fo : TF} {x : Int32} (h : fo.1 ≤ 5) : mXbranch fo x = jXbranch fo x := by
  unfold mXbranch jXbranch; rw [fl_eq (M := 5) (m9 := 5) rfl h (by decide)]
theorem e_unbranch {fo : TF} : mXunbranch fo = jXunbranch fo := rfl
theorem e_forget {o : TO} : mXforget o = jXforget o := rfl
theorem e_unroute {ro : TR} : mXunroute ro = jXunroute ro := rfl
theorem e_weather {q : TQ} {x : Int32} : mXweather q x = jXweather q x := rfl
theorem e_note {o : TO} {x : Int32} (h : o.1 ≤ 8) : mXnote o x = jXnote o x := by
  unfold mXnote jXnote; rw [fl_eq (M := 8) (m9 := 8) rfl h (by decide)]
theorem e_colour {k : TC} {x y v : Int32} (h : k.2.1 ≤ 8) : mXcolour k x y v = jXcolour k x y v := by
  unfold mXcolour jXcolour; rw [fl_eq (M := 8) (m9 := 8) rfl h (by decide)]
theorem upd_tw {f : Nat → Int32} {i : Nat} {x y : Int32} : upd (upd f i x) i y = upd f i y := by
  funext j
  by_cases h : j = i
  · rw [h, pk_us, pk_us]
  · rw [pk_un h, pk_un h, pk_un h]
theorem e_trail {t : TT} {x y : Int32} (h : t.1 ≤ 6) (hy : y = 0 ∨ y = 1) : mXtrail t x y = jXtrail t x y := by
  unfold mXtrail jXtrail
  rw [fl_eq (M := 6) (m9 := 6) rfl h (by decide), show 6 * t.1 = t.1 * 6 from Nat.mul_comm _ _]
  unfold jTb
  rw [upd_tw, show (if y = 0 then (0 : Int32) else 1) = y from by rcases hy with rfl | rfl <;> rfl]
  rfl
theorem e_set {q : TQ} {ro : TR} {t : TT} {x y : Int32} : mXset q ro t x y = jXset q ro t x y := by
  unfold mXset jXset
  by_cases h0 : x = 0
  · skip
    subst h0
    simp only [if_pos (rfl : (0 : Int32) = 0), if_neg (by decide : ¬ (0 : Int32) = 1), if_neg (by decide : ¬ (0 : Int32) = 2), if_pos (by decide : (0 : Int32) ≤ 0 ∧ (0 : Int32) ≤ 2), if_true]
  · by_cases h1 : x = 1
    · skip
      subst h1
      simp only [if_pos (rfl : (1 : Int32) = 1), if_neg (by decide : ¬ (1 : Int32) = 0), if_neg (by decide : ¬ (1 : Int32) = 2), if_pos (by decide : (0 : Int32) ≤ 1 ∧ (1 : Int32) ≤ 2), if_true]
    · by_cases h2 : x = 2
      · skip
        subst h2
        simp only [if_pos (rfl : (2 : Int32) = 2), if_neg (by decide : ¬ (2 : Int32) = 0), if_neg (by decide : ¬ (2 : Int32) = 1), if_pos (by decide : (0 : Int32) ≤ 2 ∧ (2 : Int32) ≤ 2), if_true]
      · have hx9 : ¬ (0 ≤ x ∧ x ≤ 2) := by
          intro z
          obtain ⟨j, hj, ej⟩ := nI_of2 (M := 2) (n := 2) (x := x) (by decide) (fun h9 => absurd h9 (Int32.not_lt.mpr z.1)) z.2
          rcases (show j = 0 ∨ j = 1 ∨ j = 2 by omega) with rfl | rfl | rfl
          · exact h0 ej
          · exact h1 ej
          · exact h2 ej
        rw [if_neg hx9, if_neg h0, if_neg h1, if_neg h2]
theorem e_at {S : TS} {x y : Int32} (hS : S_n S ≤ 24) (hu : ∀ i, i < S_n S → S_u S i = 0 ∨ S_u S i = 1) : mXat S x y = jXat S x y := by
  unfold mXat jXat
  by_cases h : 0 ≤ x ∧ x ≤ nI (S_n S) - 1
  · rw [if_pos h, if_pos h]
    obtain ⟨j, hj, ej⟩ := ix_of h (by omega)
    subst ej
    unfold jTl
    simp only [rg_in hj (show S_n S < 2 ^ 31 by omega), nI_cl (show j < 2 ^ 31 by omega)]
    rw [show (if S_u S j = 0 then (0 : Int32) else 1) = S_u S j from by rcases hu j hj with h9 | h9 <;> rw [h9] <;> rfl]
    by_cases hy : 0 ≤ y ∧ y ≤ 5
    · rw [if_pos hy]
      obtain ⟨i, hi, ei⟩ := nI_of2 (M := 5) (n := 5) (x := y) (by decide) (fun h9 => absurd h9 (Int32.not_lt.mpr hy.1)) hy.2
      rcases (show i = 0 ∨ i = 1 ∨ i = 2 ∨ i = 3 ∨ i = 4 ∨ i = 5 by omega) with rfl | rfl | rfl | rfl | rfl | rfl <;> (subst ei; rfl)
    · rw [if_neg hy, if_neg (fun z => hy (by rw [z]; decide)), if_neg (fun z => hy (by rw [z]; decide)), if_neg (fun z => hy (by rw [z]; decide)), if_neg (fun z => hy (by rw [z]; decide)), if_neg (fun z => hy (by rw [z]; decide)), if_neg (fun z => hy (by rw [z]; decide))]
  · rw [if_neg h, if_neg h]
theorem e_cl {S : TS} (hS : S_n S ≤ 24) : ∀ i, i ≤ S_n S → mCo S i = jCl S i
  | 0, _ => rfl
  | i + 1, h => by
    rw [mCo, jCl, e_cl hS i (by omega), rg_in (show i < S_n S by omega) (by omega)]
    by_cases q : 0 < S_f S i
    · rw [if_pos q, if_neg (Int32.not_le.mpr q)]
    · rw [if_neg q, if_pos (Int32.not_lt.mp q)]
theorem e_count {N : TN} {S : TS} {q : TQ} {o : TO} {ro : TR} {t : TT} {fo : TF} {x : Int32} (hS : S_n S ≤ 24) : mXcount N S q o ro t fo x = jXcount N S q o ro t fo x := by
  unfold mXcount jXcount; rw [e_cl hS _ (Nat.le_refl _)]