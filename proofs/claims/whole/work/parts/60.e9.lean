/-! how a walker goes on: both sides -/
/-- the days on which signs were laid do not fall -/
def DMi (S : TS) : Prop := ∀ i j, i ≤ j → j < S_n S → S_d S i ≤ S_d S j
/-- signs of a path name one -/
def PVi (N : TN) (S : TS) : Prop := ∀ i, i < S_n S → (S_k S i = 0 ∨ S_k S i = 1) → ∃ j : Nat, j < N_n N ∧ S_v S i = nI j
theorem bt_Se {S : TS} {q : TQ} {N : TN} {p k : Int32} : ∀ n, n ≤ 24 → ∀ j, j < 32 → bt (mSe S q N p k n) j = decide (j < n ∧ mSb S q N p k j = true)
  | 0, _, j, _ => by rw [mSe, bt_0]; exact (decide_eq_false (fun h => absurd h.1 (Nat.not_lt_zero _))).symm
  | n + 1, h, j, hj => by
    rw [mSe, bt_or, bt_Se n (by omega) j hj]
    by_cases q9 : mSb S q N p k n = true
    · rw [if_pos q9, bt_sh (by omega) hj, Bool.eq_iff_iff]
      simp only [Bool.or_eq_true, decide_eq_true_eq]
      constructor
      · rintro (⟨h1, h2⟩ | h1)
        · exact ⟨by omega, h2⟩
        · subst h1; exact ⟨by omega, q9⟩
      · rintro ⟨h1, h2⟩
        by_cases h3 : n = j
        · exact Or.inr h3
        · exact Or.inl ⟨by omega, h2⟩
    · rw [if_neg q9, bt_0, Bool.or_false, Bool.eq_iff_iff]
      simp only [decide_eq_true_eq]
      constructor
      · rintro ⟨h1, h2⟩; exact ⟨by omega, h2⟩
      · rintro ⟨h1, h2⟩
        refine ⟨?_, h2⟩
        by_cases h3 : j = n
        · subst h3; exact absurd h2 q9
        · omega
theorem mB_bt {x : Int32} {i : Nat} (hi : i < 32) : mB x i = bt x i := by
  unfold mB
  rw [Bool.eq_iff_iff, decide_eq_true_eq, bt_tst hi]
/-- a sign's bit in what is seen -/
theorem mB_se {S : TS} {q : TQ} {N : TN} {p k : Int32} {i : Nat} (hS : S_n S ≤ 24) (hi : i < S_n S) : mB (mSe S q N p k (S_n S)) i = mSb S q N p k i := by
  rw [mB_bt (by omega), bt_Se _ hS i (by omega), Bool.eq_iff_iff, decide_eq_true_eq]
  exact ⟨fun z => z.2, fun z => ⟨hi, z⟩⟩
section ZW
variable {S : TS} {sb : Nat → Int32} {q : TQ} {N : TN} {pb : Nat → Int32} {p k : Int32}
/-- seen: both sides, and the bit -/
theorem sn_mB (hN : N_n N ≤ 16) (hS : S_n S ≤ 24) (hB : SBi S sb) (hK : KDi S) (hk : mCm N k) {i : Nat} (hi : i < S_n S) : jSn S sb q N (nI i) p k = mB (mSe S q N p k (S_n S)) i := by
  rw [mB_se hS hi, sn_eq hN hS hB hK hk hi]
theorem cmz_eq (hN : N_n N ≤ 16) (hS : S_n S ≤ 24) (hB : SBi S sb) (hK : KDi S) (hk : mCm N k) : ∀ n, n ≤ S_n S → jCm S sb q N p k n = anyB (mKs (mSe S q N p k (S_n S)) S) n
  | 0, _ => rfl
  | n + 1, h => by
    rw [jCm, anyB, cmz_eq hN hS hB hK hk n (by omega), sn_mB hN hS hB hK hk (by omega)]
    rfl
theorem pt_la (hN : N_n N ≤ 16) (hS : S_n S ≤ 24) (hB : SBi S sb) (hK : KDi S) (hk : mCm N k) (hD : DMi S) : ∀ n, n ≤ S_n S → (mLa (mSe S q N p k (S_n S)) S n = -1 ∧ jPt S sb q N p k n = -1) ∨ ∃ i, i < n ∧ mLa (mSe S q N p k (S_n S)) S n = nI i ∧ jPt S sb q N p k n = S_v S i ∧ S_k S i = 0
  | 0, _ => Or.inl ⟨rfl, rfl⟩
  | n + 1, h => by
    rw [mLa, jPt, sn_mB hN hS hB hK hk (show n < S_n S by omega)]
    by_cases c : mB (mSe S q N p k (S_n S)) n = true ∧ S_k S n = 0
    · rw [if_pos c, if_pos]
      · exact Or.inr ⟨n, by omega, rfl, rfl, c.2⟩
      · refine ⟨c.1, c.2, ?_⟩
        rcases pt_la hN hS hB hK hk hD n (by omega) with ⟨h1, -⟩ | ⟨i, h1, h2, -, -⟩
        · exact Or.inl h1
        · refine Or.inr ?_
          rw [h2, nI_cl (by omega)]
          exact hD i n (by omega) (by omega)
    · rw [if_neg c, if_neg (fun z => c ⟨z.1, z.2.1⟩)]
      rcases pt_la hN hS hB hK hk hD n (by omega) with h1 | ⟨i, h1, h2⟩
      · exact Or.inl h1
      · exact Or.inr ⟨i, by omega, h2⟩
theorem fr_br (hN : N_n N ≤ 16) (hS : S_n S ≤ 24) (hB : SBi S sb) (hK : KDi S) (hk : mCm N k) (hV : PVi N S) {op : Int32} : ∀ n, n ≤ S_n S → mFr (mSe S q N p k (S_n S)) S op n = op &&& (jBr S sb q N p k n ^^^ (-1))
  | 0, _ => by
    rw [mFr, jBr]
    refine bt_ext (fun i hi => ?_)
    rw [bt_and, bt_not hi, bt_0, Bool.not_false, Bool.and_true]
  | n + 1, h => by
    rw [mFr, jBr, fr_br hN hS hB hK hk hV n (by omega), sn_mB hN hS hB hK hk (show n < S_n S by omega)]
    by_cases c : mB (mSe S q N p k (S_n S)) n = true
    · rw [if_pos c]
      by_cases c2 : S_k S n = 1
      · obtain ⟨j, hj, ej⟩ := hV n (by omega) (Or.inr c2)
        rw [if_pos ⟨c, c2⟩, if_pos c2, ej, zbt_n (by omega)]
        refine bt_ext (fun i hi => ?_)
        rw [bt_and, bt_and, bt_and, bt_not hi, bt_not hi, bt_not hi, bt_or, Bool.not_or, Bool.and_assoc]
      · rw [if_neg (fun z => c2 z.2), if_neg c2]
        refine bt_ext (fun i hi => ?_)
        rw [bt_and, bt_and, bt_not hi, bt_not hi, bt_or, bt_0, Bool.or_false]
    · rw [if_neg c, if_neg (fun z => c z.1)]
end ZW
/-- words within sixteen bits -/
theorem w16 {x : Int32} (h : ∀ i, 16 ≤ i → i < 32 → bt x i = false) : ∃ m : Nat, m < 65536 ∧ x = nI m := by
  refine ⟨x.toBitVec.toNat % 2 ^ 16, Nat.mod_lt _ (by decide), ?_⟩
  rw [← pk_and x (m := 65535) 16 (by decide)]
  have hm : ∀ j : Fin 32, bt 65535 j.1 = decide (j.1 < 16) := by decide +kernel
  refine bt_ext (fun i hi => ?_)
  rw [bt_and, hm ⟨i, hi⟩]
  by_cases q : i < 16
  · rw [decide_eq_true q, Bool.and_true]
  · rw [h i (by omega) hi]; rfl
