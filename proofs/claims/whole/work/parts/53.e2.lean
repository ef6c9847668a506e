theorem sub_cut {v w : Nat} (hv : v < 2 ^ 30) (hw : w < 2 ^ 30) : (if 0 < nI v - nI w then nI v - nI w else 0) = (if nI v < nI w then 0 else nI v - nI w) := by
  have hb : (nI v < nI w) ↔ v < w := by rw [nI_ltI (by omega) (by omega)]
  by_cases h : v < w
  · have ha : ¬ 0 < nI v - nI w := by
      rw [Int32.lt_iff_toInt_lt, pk_sub_toInt hv hw, show (0 : Int32).toInt = 0 from rfl]; omega
    rw [if_pos (hb.mpr h), if_neg ha]
  · rw [if_neg (fun z => h (hb.mp z))]
    by_cases q : v = w
    · subst q
      have ha : nI v - nI v = 0 := by rw [show nI v - nI v = nI (v - v) from pk_sub (by omega), Nat.sub_self]; rfl
      rw [ha, if_neg (by decide)]
    · have ha : 0 < nI v - nI w := by
        rw [Int32.lt_iff_toInt_lt, pk_sub_toInt hv hw, show (0 : Int32).toInt = 0 from rfl]; omega
      rw [if_pos ha]
/-- lives: no more than 2 ^ 20 -/
def LF (S : TS) : Prop := ∀ i, i < S_n S → ∃ v : Nat, v < 2 ^ 20 ∧ S_f S i = nI v
def WT3 (q : TQ) : Prop := q.2.1 = 0 ∨ q.2.1 = 1 ∨ q.2.1 = 2
theorem off_eq {S : TS} {q : TQ} {d : Int32} {i : Nat} (hw : WT3 q) : (if S_k S i = 2 then d else d * ((1 : Int32) <<< (q.2.1 &&& 31))) = mOff S q d i := by
  unfold mOff
  by_cases h : S_k S i = 2
  · rw [if_pos h, if_pos (Or.inl h), Int32.mul_one]
  · rw [if_neg h]
    rcases hw with e | e | e <;> rw [e]
    · rw [if_pos (Or.inr rfl)]; rfl
    · rw [if_neg (fun z => z.elim h (by decide))]; rfl
    · rw [if_neg (fun z => z.elim h (by decide))]; rfl
theorem off_nI {S : TS} {q : TQ} {d : Nat} (hd : d ≤ 30) (hw : WT3 q) (i : Nat) : ∃ w : Nat, w ≤ 120 ∧ mOff S q (nI d) i = nI w := by
  unfold mOff
  by_cases h : S_k S i = 2 ∨ q.2.1 = 0
  · rw [if_pos h]; exact ⟨d, by omega, Int32.mul_one _⟩
  · rw [if_neg h]
    rcases hw with e | e | e
    · exact absurd (Or.inr e) h
    · rw [e]; exact ⟨d * 2, by omega, pk_mul d 2⟩
    · rw [e]; exact ⟨d * 4, by omega, pk_mul d 4⟩
theorem lv_eq {S : TS} {q : TQ} {d : Nat} (hd : d ≤ 30) (hw : WT3 q) (hf : LF S) : ∀ i, i ≤ S_n S → mLv S q (nI d) i = jLv S q (nI d) i ∧ ∀ j, j < S_n S → ∃ v : Nat, v < 2 ^ 20 ∧ mLv S q (nI d) i j = nI v
  | 0, _ => ⟨rfl, hf⟩
  | i + 1, h => by
    obtain ⟨h1, h2⟩ := lv_eq hd hw hf i (by omega)
    obtain ⟨v, hv, ev⟩ := h2 i (by omega)
    obtain ⟨w, hw9, ew⟩ := off_nI (S := S) hd hw i
    rw [mLv, jLv, ← h1, off_eq hw, ev, ew, sub_cut (by omega) (by omega)]
    refine ⟨rfl, fun j hj => ?_⟩
    by_cases q9 : j = i
    · subst q9
      rw [pk_us]
      split
      · exact ⟨0, by decide, rfl⟩
      · rename_i h9
        rw [nI_ltI (by omega) (by omega)] at h9
        exact ⟨v - w, by omega, pk_sub (by omega)⟩
    · rw [pk_un q9]; exact h2 j hj
theorem e_days {S : TS} {q : TQ} {x : Int32} (hw : WT3 q) (hf : LF S) : mXdays S q x = jXdays S q x := by
  unfold mXdays jXdays
  by_cases h : 1 ≤ x ∧ x ≤ 30
  · rw [if_pos h, if_pos h]
    obtain ⟨d, hd, ed⟩ := nI_of2 (M := 30) (n := 30) (x := x) (by decide) (fun h9 => absurd (Int32.lt_of_le_of_lt h.1 h9) (by decide)) h.2
    rw [ed, (lv_eq hd hw hf (S_n S) (Nat.le_refl _)).1]
  · rw [if_neg h, if_neg h]