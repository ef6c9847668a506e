/-! bits of words -/
def bt (x : Int32) (i : Nat) : Bool := x.toBitVec.getLsbD i
theorem bt_or {x y : Int32} {i : Nat} : bt (x ||| y) i = (bt x i || bt y i) := by
  unfold bt; rw [Int32.toBitVec_or, BitVec.getLsbD_or]
theorem bt_and {x y : Int32} {i : Nat} : bt (x &&& y) i = (bt x i && bt y i) := by
  unfold bt; rw [Int32.toBitVec_and, BitVec.getLsbD_and]
theorem bt_not {x : Int32} {i : Nat} (h : i < 32) : bt (x ^^^ (-1)) i = !bt x i := by
  unfold bt; rw [Int32.toBitVec_xor, BitVec.getLsbD_xor, show (-1 : Int32).toBitVec = BitVec.allOnes 32 from by decide, BitVec.getLsbD_allOnes, decide_eq_true h, Bool.xor_true]
theorem bt_0 {i : Nat} : bt 0 i = false := by unfold bt; rw [show (0 : Int32).toBitVec = 0#32 from rfl]; exact BitVec.getLsbD_zero
theorem bt_ext {x y : Int32} (h : ∀ i, i < 32 → bt x i = bt y i) : x = y := Int32.toBitVec_inj.mp (BitVec.eq_of_getLsbD_eq (fun i hi => h i hi))
theorem sh_all : ∀ i : Fin 32, ∀ j : Fin 32, bt ((1 : Int32) <<< (nI i.1 &&& 31)) j.1 = decide (i.1 = j.1) := by decide +kernel
theorem bt_sh {i j : Nat} (hi : i < 32) (hj : j < 32) : bt ((1 : Int32) <<< (nI i &&& 31)) j = decide (i = j) := sh_all ⟨i, hi⟩ ⟨j, hj⟩
theorem sm_all : ∀ i : Fin 32, ((nI i.1 &&& 31).toBitVec.smod 32).toNat = i.1 := by decide +kernel
theorem bt_shr {x : Int32} {i j : Nat} (hi : i < 32) (hj : i + j < 32) : bt (x >>> (nI i &&& 31)) j = bt x (i + j) := by
  unfold bt
  rw [Int32.toBitVec_shiftRight, BitVec.sshiftRight', sm_all ⟨i, hi⟩, BitVec.getLsbD_sshiftRight]
  simp [show ¬ 32 ≤ j by omega, hj]
theorem one_all : ∀ j : Fin 32, bt 1 j.1 = decide (0 = j.1) := by decide +kernel
/-- the test (x >> i & 1) == 1 -/
theorem bt_tst {x : Int32} {i : Nat} (hi : i < 32) : (((x >>> (nI i &&& 31)) &&& 1) = 1) ↔ bt x i = true := by
  constructor
  · intro h
    have h9 := congrArg (fun z => bt z 0) h
    simp only [bt_and, bt_shr hi (show i + 0 < 32 by omega), one_all ⟨0, by decide⟩] at h9
    simpa using h9
  · intro h
    refine bt_ext (fun j hj => ?_)
    rw [bt_and, one_all ⟨j, hj⟩]
    by_cases q : 0 = j
    · subst q; rw [bt_shr hi (by omega), Nat.add_zero, h]; rfl
    · simp [q]
theorem bt_and_sh {x : Int32} {i : Nat} (hi : i < 32) : ((x &&& ((1 : Int32) <<< (nI i &&& 31))) = 0) ↔ bt x i = false := by
  constructor
  · intro h
    have h9 := congrArg (fun z => bt z i) h
    simp only [bt_and, bt_sh hi hi, bt_0] at h9
    simpa using h9
  · intro h
    refine bt_ext (fun j hj => ?_)
    rw [bt_and, bt_sh hi hj, bt_0]
    by_cases q : i = j
    · subst q; rw [h]; rfl
    · simp [q]
/-- the paths at a place, bit for bit -/
theorem bt_PA {N : TN} {p : Int32} : ∀ n, n ≤ 16 → ∀ j, j < 32 → bt (mPA N p n) j = decide (j < n ∧ mAt N (nI j) p = true)
  | 0, _, j, _ => by rw [mPA, bt_0]; exact (decide_eq_false (fun h => absurd h.1 (Nat.not_lt_zero _))).symm
  | n + 1, h, j, hj => by
    rw [mPA, bt_or, bt_PA n (by omega) j hj]
    by_cases q : mAt N (nI n) p = true
    · rw [if_pos q, bt_sh (by omega) hj, Bool.eq_iff_iff]
      simp only [Bool.or_eq_true, decide_eq_true_eq]
      constructor
      · rintro (⟨h1, h2⟩ | h1)
        · exact ⟨by omega, h2⟩
        · subst h1; exact ⟨by omega, q⟩
      · rintro ⟨h1, h2⟩
        by_cases h3 : n = j
        · exact Or.inr h3
        · exact Or.inl ⟨by omega, h2⟩
    · rw [if_neg q, bt_0, Bool.or_false, Bool.eq_iff_iff]
      simp only [decide_eq_true_eq]
      constructor
      · rintro ⟨h1, h2⟩; exact ⟨by omega, h2⟩
      · rintro ⟨h1, h2⟩
        refine ⟨?_, h2⟩
        by_cases h3 : j = n
        · subst h3; exact absurd h2 q
        · omega