/-! the only way: both sides -/
theorem fstB_u {P : Nat → Bool} {u : Nat} (hu31 : u < 2 ^ 31) : ∀ n, u < n → P u = true → (∀ i, i < n → i ≠ u → ¬ P i = true) → fstB P n = nI u := by
  intro n hu hp ho
  have hz : anyB P u = false := by
    rw [Bool.eq_false_iff]
    intro z
    obtain ⟨i, hi, pi⟩ := (anyB_iff u).mp z
    exact ho i (by omega) (by omega) pi
  have h9 := fstB_at hu31 hz hp (n - 1 - u)
  rw [show u + 1 + (n - 1 - u) = n by omega] at h9
  exact h9
section ZO
variable {S : TS} {sb : Nat → Int32} {q : TQ} {N : TN} {pb : Nat → Int32} {p : Nat} {k : Int32} {o : TO}
/-- a way on -/
def mQ (N : TN) (G : Nat → Int32) (n : Nat) (x k : Int32) (u : Nat) : Prop := mMy N x k (nI u) = true ∧ 0 < G (170 * (n + 1) + 17 * (mOE N u x).toNatClampNeg + u)
theorem mWm_one (hN : N_n N ≤ 16) (hE : NE N) {n : Nat} (hn : ¬ n + 1 = o.1) {G : Nat → Int32} {x : Int32} {b9 : Nat} (hb : b9 ≤ 16 ^ 6) (hf : ∀ y, y < 170 → ∃ v : Nat, G (170 * (n + 1) + y) = nI v ∧ v ≤ b9) : ∀ i, i ≤ N_n N → ∃ s : Nat, mWm N o n G x k i = nI s ∧ s ≤ i * b9 ∧ (s = 0 → ∀ u, u < i → ¬ mQ N G n x k u) ∧ (s = 1 → ∃ u, u < i ∧ mMy N x k (nI u) = true ∧ G (170 * (n + 1) + 17 * (mOE N u x).toNatClampNeg + u) = 1 ∧ ∀ w, w < i → w ≠ u → ¬ mQ N G n x k w)
  | 0, _ => ⟨0, by rw [mWm, if_neg hn]; rfl, by omega, fun _ u hu => absurd hu (Nat.not_lt_zero _), fun h => absurd h (by decide)⟩
  | i + 1, hi => by
    obtain ⟨s, h1, h2, h3, h4⟩ := mWm_one hN hE hn hb hf (x := x) i (by omega)
    obtain ⟨a, ha, ea⟩ := mOE_ne hE (show i < N_n N by omega) x
    obtain ⟨v, hv, hvb⟩ := hf (17 * a + i) (by omega)
    have hG : G (170 * (n + 1) + 17 * (mOE N i x).toNatClampNeg + i) = nI v := by rw [ea, nI_cl (by omega), Nat.add_assoc, hv]
    have hs : (i + 1) * b9 = i * b9 + b9 := Nat.succ_mul i b9
    have h16 : (16 : Nat) ^ 6 = 16777216 := rfl
    rw [mWm, if_neg hn, h1, hG]
    have hqi : mQ N G n x k i ↔ mMy N x k (nI i) = true ∧ 0 < v := by
      unfold mQ
      rw [hG, show (0 : Int32) = nI 0 from rfl, nI_ltI (by decide) (by omega)]
    by_cases hm : mMy N x k (nI i) = true
    · rw [if_pos hm, nI_add]
      refine ⟨s + v, rfl, by omega, ?_, ?_⟩
      · intro z u hu
        by_cases e : u = i
        · subst e; rw [hqi]; exact fun w => by omega
        · exact h3 (by omega) u (by omega)
      · intro z
        rcases Nat.eq_zero_or_pos v with hv0 | hv0
        · obtain ⟨u, u1, u2, u3, u4⟩ := h4 (by omega)
          refine ⟨u, by omega, u2, u3, fun w hw hwu => ?_⟩
          by_cases e : w = i
          · subst e; rw [hqi]; exact fun y => by omega
          · exact u4 w (by omega) hwu
        · refine ⟨i, by omega, hm, ?_, fun w hw hwu => h3 (by omega) w (by omega)⟩
          rw [hG, show v = 1 by omega]; rfl
    · rw [if_neg hm, Int32.add_zero]
      have hni : ¬ mQ N G n x k i := fun z => hm (hqi.mp z).1
      refine ⟨s, rfl, by omega, fun z u hu => ?_, fun z => ?_⟩
      · by_cases e : u = i
        · subst e; exact hni
        · exact h3 z u (by omega)
      · obtain ⟨u, u1, u2, u3, u4⟩ := h4 z
        refine ⟨u, by omega, u2, u3, fun w hw hwu => ?_⟩
        by_cases e : w = i
        · subst e; exact hni
        · exact u4 w (by omega) hwu
/-- where there is one way, there is one way on -/
theorem one_next (hN : N_n N ≤ 16) (hE : NE N) (ho : o.1 ≤ 8) {f : Nat → Int32} {n c : Nat} (hn : n + 1 < o.1) (hc : c < 170) (h : mWd S q N o f o.1 (170 * n + c) = 1) :
    ∃ u, u < N_n N ∧ mMy N (nI (c / 17)) (mPth c) (nI u) = true ∧ mWd S q N o f o.1 (170 * (n + 1) + 17 * (mOE N u (nI (c / 17))).toNatClampNeg + u) = 1 ∧ ∀ w, w < N_n N → w ≠ u → ¬ mQ N (mWd S q N o f o.1) n (nI (c / 17)) (mPth c) w := by
  rw [mWd_fix (by omega) hc] at h
  unfold mWv at h
  split at h
  · obtain ⟨s, h1, h2, -, h4⟩ := mWm_one (o := o) (k := mPth c) (x := nI (c / 17)) (G := mWd S q N o f o.1) hN hE (show ¬ n + 1 = o.1 by omega) (show 16 ^ (o.1 - 1 - (n + 1)) ≤ 16 ^ 6 from Nat.pow_le_pow_right (by decide) (by omega)) (fun y hy => mWd_b (S := S) (q := q) (o := o) (f := f) hE hN (o.1 - 1 - (n + 1)) (n + 1) (by omega) y hy) (N_n N) (Nat.le_refl _)
    have hb : 16 ^ (o.1 - 1 - (n + 1)) ≤ 16 ^ 6 := Nat.pow_le_pow_right (by decide) (by omega)
    have h16 : (16 : Nat) ^ 6 = 16777216 := rfl
    have hs : s ≤ 16 * 16777216 := Nat.le_trans h2 (Nat.mul_le_mul hN (by omega))
    rw [h1, show (1 : Int32) = nI 1 from rfl, nI_eq (by omega) (by decide)] at h
    exact h4 h
  · exact absurd h (by decide)
theorem pg_on (hN : N_n N ≤ 16) (hP : PBi N pb) (hE : NE N) (ho : o.1 ≤ 8) {wy f : Nat → Int32} {p : Nat}
    (hW : ∀ n, 1 ≤ n → n < o.1 → ∀ j, j < N_n N → ∀ sd, (sd = 0 ∨ sd = 1) → ∀ a : Nat, a < 10 → (if sd = 1 then N_b N j else N_a N j) = nI a → wy (n * 32 + (2 * j + sd)) = mWd S q N o f o.1 (170 * n + 17 * a + j)) :
    ∀ m n, n + m < o.1 → (∃ a kk, mOn N (mWd S q N o f o.1) p n = 17 * a + kk ∧ a < 10 ∧ (kk = 16 ∨ kk < N_n N)) → mWd S q N o f o.1 (170 * n + mOn N (mWd S q N o f o.1) p n) = 1 →
    jPg N pb wy m (n + 1) (nI (mOn N (mWd S q N o f o.1) p n / 17)) (mPth (mOn N (mWd S q N o f o.1) p n)) = nI (mOn N (mWd S q N o f o.1) p (n + m) / 17) := by
  intro m
  induction m with
  | zero => intro n _ _ _; rfl
  | succ m ih =>
    intro n hn hc h1
    obtain ⟨a, kk, ec, ha, hkk⟩ := hc
    obtain ⟨u, hu, u2, u3, u4⟩ := one_next hN hE ho (show n + 1 < o.1 by omega) (show mOn N (mWd S q N o f o.1) p n < 170 by omega) h1
    have hnx : mNx N (mWd S q N o f o.1) n (nI (mOn N (mWd S q N o f o.1) p n / 17)) (mPth (mOn N (mWd S q N o f o.1) p n)) (N_n N) = nI u := by
      rcases mNx_sp (N := N) (f := mWd S q N o f o.1) (n := n) (p := nI (mOn N (mWd S q N o f o.1) p n / 17)) (y := mPth (mOn N (mWd S q N o f o.1) p n)) (N_n N) with ⟨-, g2⟩ | ⟨v, g1, g2, g3, g4⟩
      · exact absurd ⟨u2, by rw [u3]; decide⟩ (g2 u hu)
      · by_cases e : v = u
        · rw [g2, e]
        · exact absurd ⟨g3, g4⟩ (u4 v g1 e)
    have hdv : mOn N (mWd S q N o f o.1) p n / 17 = a := by rw [ec]; omega
    have hpc : mCm N (mPth (mOn N (mWd S q N o f o.1) p n)) := by
      rw [ec]
      rcases hkk with e | e
      · refine Or.inl ?_
        unfold mPth; rw [if_pos (by omega)]
      · exact Or.inr ⟨kk, e, mPth_u (by omega)⟩
    have hpo : jPo N pb wy (nI (n + 1)) (nI (mOn N (mWd S q N o f o.1) p n / 17)) (mPth (mOn N (mWd S q N o f o.1) p n)) = nI u := by
      have hw : ∀ i, i < N_n N → ((¬ (jEx pb (nI (mOn N (mWd S q N o f o.1) p n / 17)) (mPth (mOn N (mWd S q N o f o.1) p n)) &&& zbt (nI i)) = 0 ∧ 0 < rg 256 wy (nI (n + 1) * 32 + jArc N (nI (mOn N (mWd S q N o f o.1) p n / 17)) (nI i))) ↔ mQ N (mWd S q N o f o.1) n (nI (mOn N (mWd S q N o f o.1) p n / 17)) (mPth (mOn N (mWd S q N o f o.1) p n)) i) := by
        intro i hi
        rw [hdv, ex_my hN hP hpc ha hi, Classical.not_not]
        obtain ⟨sd, s1, s2, s3⟩ := wix hN (show n ≤ 6 by omega) hi (nI a)
        obtain ⟨a2, ha2, ea2⟩ := mOE_ne hE hi (nI a)
        unfold mQ
        rw [← nI_1 n, s2, hW (n + 1) (by omega) (by omega) i hi sd s1 a2 ha2 (by rw [← s3, ea2]), ea2, nI_cl (show a2 < 2 ^ 31 by omega)]
      unfold jPo
      refine fstB_u (by omega) (N_n N) hu (decide_eq_true ((hw u hu).mpr ⟨u2, by rw [u3]; decide⟩)) (fun i hi hiu z => u4 i hi hiu ((hw i hi).mp (of_decide_eq_true z)))
    have hon : mOn N (mWd S q N o f o.1) p (n + 1) = 17 * (mOE N u (nI (mOn N (mWd S q N o f o.1) p n / 17))).toNatClampNeg + u := by
      rw [mOn, hnx, nI_cl (by omega)]
    obtain ⟨a2, ha2, ea2⟩ := mOE_ne hE hu (nI (mOn N (mWd S q N o f o.1) p n / 17))
    obtain ⟨sd, s1, s2, s3⟩ := arc_eq hN hu (nI (mOn N (mWd S q N o f o.1) p n / 17))
    have hoe : jOE N (nI (mOn N (mWd S q N o f o.1) p n / 17)) (nI u) = nI a2 := by
      unfold jOE
      rw [s2, end_eq hN hu s1, ← s3, ea2]
    have hon2 : mOn N (mWd S q N o f o.1) p (n + 1) = 17 * a2 + u := by rw [hon, ea2, nI_cl (by omega)]
    have h9 := ih (n + 1) (by omega) ⟨a2, u, hon2, ha2, Or.inr hu⟩ (by rw [hon, ← Nat.add_assoc]; exact u3)
    rw [hon2, mPth_u (by omega), show (17 * a2 + u) / 17 = a2 by omega, show n + 1 + m = n + (m + 1) by omega] at h9
    rw [jPg, hpo, if_neg (nI_nm1 (by omega)), hoe]
    exact h9
theorem e_only {wy : Nat → Int32} {z : TZ} {x y : Int32} (hN : N_n N ≤ 16) (hS : S_n S ≤ 24) (hP : PBi N pb) (hB : SBi S sb) (hK : KDi S) (hE : NE N) (ho : o.1 ≤ 8) : (mXonly N S q o z x y).1 = (jXonly S sb q N pb o wy x y).1 := by
  unfold mXonly jXonly
  by_cases h1 : 0 ≤ x ∧ x ≤ 9
  · rw [if_pos h1, if_pos h1]
    obtain ⟨p, hp, ep⟩ := pl_of h1
    subst ep
    by_cases h2 : 0 ≤ y
    · rw [if_pos h2, if_pos h2, wf_eq (f := z.2.2.2.2.2.1) hN hS hP hB hK hE ho hp]
      show (if nI o.1 ≤ y ∨ ¬ (mWd S q N o z.2.2.2.2.2.1 o.1) (17 * (nI p).toNatClampNeg + 16) = 1 then -1 else nI (mOn N (mWd S q N o z.2.2.2.2.2.1 o.1) (nI p).toNatClampNeg y.toNatClampNeg / 17)) = _
      rw [nI_cl (by omega)]
      have hy0 : ¬ y < 0 := Int32.not_lt.mpr h2
      by_cases h3 : nI o.1 ≤ y
      · rw [if_pos (Or.inl h3)]
        have hpw : jPw N pb o (jWz S sb q N pb o wy) (nI p) y = -1 := by unfold jPw; rw [if_neg hy0, if_pos h3]
        by_cases h4 : (if o.1 = 0 then (1 : Int32) else mWd S q N o z.2.2.2.2.2.1 o.1 (17 * p + 16)) = 1
        · rw [if_pos h4]; exact hpw.symm
        · rw [if_neg h4]
      · obtain ⟨i, hi, ei⟩ := ixl h2 h3 (by omega)
        subst ei
        have ho0 : ¬ o.1 = 0 := by omega
        rw [if_neg ho0]
        by_cases h4 : mWd S q N o z.2.2.2.2.2.1 o.1 (17 * p + 16) = 1
        · rw [if_neg (fun w => w.elim h3 (fun v => v h4)), if_pos h4]
          show nI (mOn N (mWd S q N o z.2.2.2.2.2.1 o.1) p (nI i).toNatClampNeg / 17) = jPw N pb o (jWz S sb q N pb o wy) (nI p) (nI i)
          unfold jPw
          rw [if_neg hy0, if_neg h3, nI_cl (by omega), show jWz S sb q N pb o wy = jWy S sb q N pb o wy from if_neg ho0]
          have h9 := pg_on (S := S) (q := q) (f := z.2.2.2.2.2.1) (p := p) (wy := jWy S sb q N pb o wy) hN hP hE ho (fun n h5 h6 => wy_eq hN hS hP hB hK hE ho (o.1 - 1 - n) n (by omega) h5) i 0 (by omega) ⟨p, 16, rfl, hp, Or.inl rfl⟩ (by rw [show 170 * 0 = 0 from rfl, Nat.zero_add]; exact h4)
          have hm0 : mOn N (mWd S q N o z.2.2.2.2.2.1 o.1) p 0 = 17 * p + 16 := rfl
          have hp0 : mPth (17 * p + 16) = -1 := by unfold mPth; rw [if_pos (by omega)]
          rw [hm0, hp0, show (17 * p + 16) / 17 = p by omega, Nat.zero_add, Nat.zero_add] at h9
          exact h9.symm
        · rw [if_pos (Or.inr h4), if_neg h4]
    · rw [if_neg h2, if_neg h2]
  · rw [if_neg h1, if_neg h1]
end ZO
