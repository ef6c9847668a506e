/-! clubs: both sides -/
theorem m1_all : ∀ n : Fin 17, (1 : Int32) <<< (nI n.1 &&& 31) - 1 = nI (2 ^ n.1 - 1) ∧ (nI (2 ^ n.1 - 1)).toBitVec.toNat = 2 ^ n.1 - 1 := by decide +kernel
theorem m2_all : ∀ n : Fin 17, ∀ i : Fin 32, bt (nI (2 ^ n.1 - 1)) i.1 = decide (i.1 < n.1) := by decide +kernel
theorem bt_nI {m i : Nat} (hi : i < 32) : bt (nI m) i = m.testBit i := by
  unfold bt nI
  rw [show (Int32.ofNat m).toBitVec = BitVec.ofNat 32 m from rfl, BitVec.getLsbD_ofNat, decide_eq_true hi, Bool.true_and]
theorem in_mask {n : Nat} (hn : n ≤ 16) (y : Int32) : (0 ≤ y ∧ y ≤ (1 : Int32) <<< (nI n &&& 31) - 1) ↔ (y &&& (((1 : Int32) <<< (nI n &&& 31) - 1) ^^^ (-1))) = 0 := by
  obtain ⟨h1, h2⟩ := m1_all ⟨n, by omega⟩
  have h3 := m2_all ⟨n, by omega⟩
  have hp : 2 ^ n ≤ 2 ^ 16 := Nat.pow_le_pow_right (by decide) hn
  have hp0 : 0 < 2 ^ n := Nat.two_pow_pos n
  have h16 : (2 : Nat) ^ 16 = 65536 := rfl
  rw [show (1 : Int32) <<< (nI n &&& 31) - 1 = nI (2 ^ n - 1) from h1]
  constructor
  · rintro ⟨z1, z2⟩
    obtain ⟨j, hj, ej⟩ := nI_of (Int32.not_lt.mpr z1)
    subst ej
    rw [nI_leI hj (by omega)] at z2
    refine bt_ext (fun i hi => ?_)
    rw [bt_and, bt_not hi, h3 ⟨i, hi⟩, bt_0]
    by_cases c : i < n
    · rw [decide_eq_true c, Bool.not_true, Bool.and_false]
    · rw [bt_nI hi, Nat.testBit_lt_two_pow (Nat.lt_of_lt_of_le (show j < 2 ^ n by omega) (Nat.pow_le_pow_right (by decide) (by omega))), Bool.false_and]
  · intro z
    have he : y = nI (y.toBitVec.toNat % 2 ^ n) := by
      rw [← pk_and y (m := nI (2 ^ n - 1)) n h2]
      refine bt_ext (fun i hi => ?_)
      have h9 := congrArg (fun w => bt w i) z
      simp only [bt_and, bt_not hi, h3 ⟨i, hi⟩, bt_0] at h9
      rw [bt_and, h3 ⟨i, hi⟩]
      by_cases c : i < n
      · rw [decide_eq_true c, Bool.and_true]
      · rw [decide_eq_false c] at h9 ⊢
        rw [Bool.not_false, Bool.and_true] at h9
        rw [h9]; rfl
    have hm : y.toBitVec.toNat % 2 ^ n < 2 ^ n := Nat.mod_lt _ hp0
    rw [he]
    exact ⟨nI_pos' (by omega), by rw [nI_leI (by omega) (by omega)]; omega⟩
theorem e_club {N : TN} {k : TC} {x y : Int32} (hN : N_n N ≤ 16) : mXclub N k x y = jXclub N k x y := by
  unfold mXclub jXclub
  by_cases h1 : 0 ≤ x ∧ x ≤ 3
  · rw [if_pos h1, if_pos h1]
    by_cases h2 : 0 ≤ y ∧ y ≤ (1 : Int32) <<< (nI (N_n N) &&& 31) - 1
    · rw [if_pos h2, if_pos ((in_mask hN y).mp h2)]
    · rw [if_neg h2, if_neg (fun z => h2 ((in_mask hN y).mpr z))]
  · rw [if_neg h1, if_neg h1]
/-- days told are none below the first -/
def CDi (k : TC) : Prop := ∀ i, i < k.2.1 → 0 ≤ k.2.2.2.2 i
theorem hu_cl {k : TC} {c d : Int32} (hC : CDi k) (h8 : k.2.1 ≤ 8) : ∀ n, n ≤ k.2.1 → (mCl k c d n = -1 ∧ jHu k c d n = (-1, 0)) ∨ ∃ i, i < n ∧ mCl k c d n = nI i ∧ jHu k c d n = (k.2.2.2.1 i, k.2.2.2.2 i)
  | 0, _ => Or.inl ⟨rfl, rfl⟩
  | n + 1, h => by
    rw [mCl, jHu]
    rcases hu_cl (c := c) (d := d) hC h8 n (by omega) with ⟨h1, h2⟩ | ⟨i, h1, h2, h3⟩
    · rw [h1, h2]
      by_cases q : k.2.2.1 n = c ∧ k.2.2.2.2 n ≤ d
      · rw [if_pos ⟨q.1, q.2, Or.inl rfl⟩, if_pos ⟨q.1, q.2, hC n (by omega)⟩]
        exact Or.inr ⟨n, by omega, rfl, rfl⟩
      · rw [if_neg (fun z => q ⟨z.1, z.2.1⟩), if_neg (fun z => q ⟨z.1, z.2.1⟩)]
        exact Or.inl ⟨rfl, rfl⟩
    · rw [h2, h3, nI_cl (by omega)]
      by_cases q : k.2.2.1 n = c ∧ k.2.2.2.2 n ≤ d ∧ k.2.2.2.2 i ≤ k.2.2.2.2 n
      · rw [if_pos ⟨q.1, q.2.1, Or.inr q.2.2⟩, if_pos q]
        exact Or.inr ⟨n, by omega, rfl, rfl⟩
      · rw [if_neg (fun z => q ⟨z.1, z.2.1, z.2.2.elim (fun w => absurd w (nI_nm1 (by omega))) id⟩), if_neg q]
        exact Or.inr ⟨i, by omega, rfl, rfl⟩
theorem has_ct {k : TC} {y d : Int32} (hC : CDi k) (h8 : k.2.1 ≤ 8) (hy : 0 ≤ y) (i : Nat) : jHas k y d i = true ↔ (¬ mCl k (nI i) d k.2.1 = -1 ∧ k.2.2.2.1 (mCl k (nI i) d k.2.1).toNatClampNeg = y) := by
  unfold jHas
  rw [decide_eq_true_eq]
  rcases hu_cl (c := nI i) (d := d) hC h8 k.2.1 (Nat.le_refl _) with ⟨h1, h2⟩ | ⟨j, h1, h2, h3⟩
  · rw [h1, h2]
    constructor
    · intro z
      have z2 : (-1 : Int32) = y := z
      rw [← z2] at hy
      exact absurd hy (by decide)
    · intro z; exact absurd rfl z.1
  · rw [h2, h3, nI_cl (by omega)]
    exact ⟨fun z => ⟨nI_nm1 (by omega), z⟩, fun z => z.2⟩
theorem hd_cd {k : TC} {c v d : Int32} : jHd k c v d = anyB (mCd k c v d) k.2.1 := by
  unfold jHd
  refine anyB_congr _ (fun i _ => ?_)
  unfold mCd
  rw [Bool.eq_iff_iff, decide_eq_true_eq, decide_eq_true_eq]
  exact ⟨fun z => ⟨z.1, z.2.2, z.2.1⟩, fun z => ⟨z.1, z.2.2, z.2.1⟩⟩
theorem may_wh {k : TC} {x y d w : Int32} (hC : CDi k) (h8 : k.2.1 ≤ 8) (hy : 0 ≤ y) (hw : w = 0 ∨ w = 1) (i : Nat) : jMay k y d w i = true ↔ mCt k (nI i) y d = 2 - w := by
  have hh := has_ct (d := d) hC h8 hy i
  unfold jMay mCt
  rw [decide_eq_true_eq, hd_cd]
  by_cases c : ¬ mCl k (nI i) d k.2.1 = -1 ∧ k.2.2.2.1 (mCl k (nI i) d k.2.1).toNatClampNeg = y
  · rw [if_pos c]
    have hj : jHas k y d i = true := hh.mpr c
    rcases hw with e | e <;> subst e
    · rw [if_pos rfl]; exact ⟨fun _ => by decide, fun _ => hj⟩
    · rw [if_neg (by decide)]
      exact ⟨fun z => by rw [hj] at z; exact absurd z.1 (by decide), fun z => absurd z (by decide)⟩
  · rw [if_neg c]
    have hj : ¬ jHas k y d i = true := fun z => c (hh.mp z)
    have hj2 : jHas k y d i = false := Bool.eq_false_iff.mpr hj
    rcases hw with e | e <;> subst e
    · rw [if_pos rfl]
      refine ⟨fun z => absurd z hj, fun z => ?_⟩
      split at z
      · exact absurd z (by decide)
      · exact absurd z (by decide)
    · rw [if_neg (by decide)]
      by_cases g : anyB (mCd k (nI i) y d) k.2.1 = true
      · rw [if_pos g]; exact ⟨fun _ => by decide, fun _ => ⟨hj2, g⟩⟩
      · rw [if_neg g]; exact ⟨fun z => absurd z.2 g, fun z => absurd z (by decide)⟩
theorem ow_wo {k : TC} {y d w : Int32} {x : Nat} (hx : x < 16) (hC : CDi k) (h8 : k.2.1 ≤ 8) (hy : 0 ≤ y) (hw : w = 0 ∨ w = 1) : ∀ n, mWo k (nI x) y d w n = jOw k (nI x) y d w n
  | 0 => rfl
  | n + 1 => by
    rw [mWo, jOw, ow_wo hx hC h8 hy hw n, zbt_n hx]
    have hm := may_wh (x := nI x) (d := d) hC h8 hy hw n
    have ha := and_ne (x := k.1 n) (i := x) (by omega)
    have hc : mWh k (nI x) y d w n = true ↔ (jMay k y d w n = true ∧ ¬ (k.1 n &&& ((1 : Int32) <<< (nI x &&& 31))) = 0) := by
      unfold mWh
      rw [decide_eq_true_eq, bt_tst (by omega), hm, ha]
      exact And.comm
    by_cases c : mWh k (nI x) y d w n = true
    · rw [if_pos c, if_pos (hc.mp c)]
    · rw [if_neg c, if_neg (fun z => c (hc.mpr z))]
      exact bt_ext (fun v _ => by rw [bt_or, bt_0, Bool.or_false])
theorem e_whose {N : TN} {k : TC} {x y d w : Int32} (hN : N_n N ≤ 16) (hC : CDi k) (h8 : k.2.1 ≤ 8) : mXwhose N k x y d w = jXwhose N k x y d w := by
  unfold mXwhose jXwhose
  by_cases h1 : 0 ≤ x ∧ x ≤ nI (N_n N) - 1
  · rw [if_pos h1, if_pos h1]
    obtain ⟨j, hj, ej⟩ := ix_of h1 (by omega)
    subst ej
    by_cases h2 : 0 ≤ y ∧ y ≤ 5
    · rw [if_pos h2, if_pos h2]
      by_cases h3 : 0 ≤ d ∧ d ≤ 400
      · rw [if_pos h3, if_pos h3]
        by_cases h4 : 0 ≤ w ∧ w ≤ 1
        · rw [if_pos h4, if_pos h4]
          have hw := k01.mpr h4
          rw [ow_wo (show j < 16 by omega) hC h8 h2.1 hw 4]
          rcases hw with e | e <;> subst e
          · rw [if_neg (by decide)]
          · rw [if_pos rfl]
        · rw [if_neg h4, if_neg h4]
      · rw [if_neg h3, if_neg h3]
    · rw [if_neg h2, if_neg h2]
  · rw [if_neg h1, if_neg h1]
