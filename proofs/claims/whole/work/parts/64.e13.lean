/-! the ways by notes: both sides -/
section ZY
variable {S : TS} {sb : Nat → Int32} {q : TQ} {N : TN} {pb : Nat → Int32} {p : Nat} {k : Int32} {o : TO}
theorem ks_kd (hN : N_n N ≤ 16) (hS : S_n S ≤ 24) (hB : SBi S sb) (hK : KDi S) (hk : mCm N k) {x : Int32} : ∀ n, n ≤ S_n S → jKs S sb q N x k n = mKd (mSe S q N x k (S_n S)) S n
  | 0, _ => rfl
  | n + 1, h => by rw [jKs, mKd, ks_kd hN hS hB hK hk n (by omega), sn_mB hN hS hB hK hk (by omega)]
/-- the paths but that by which one came -/
theorem bt_Op (hN : N_n N ≤ 16) (hk : mCm N k) {x : Int32} {i : Nat} (hi : i < N_n N) : bt (mOp N x k) i = decide (mAt N (nI i) x = true ∧ ¬ nI i = k) := by
  unfold mOp
  rw [bt_and, bt_not (by omega), bt_PA _ hN i (by omega), Bool.eq_iff_iff, Bool.and_eq_true, decide_eq_true_eq, decide_eq_true_eq]
  rcases hk with e | ⟨j, hj, e⟩
  · subst e
    rw [if_pos rfl, bt_0]
    exact ⟨fun z => ⟨z.1.2, nI_nm1 (by omega)⟩, fun z => ⟨⟨hi, z.1⟩, rfl⟩⟩
  · subst e
    rw [if_neg (nI_nm1 (by omega)), bt_sh (by omega) (by omega), nI_eq (by omega) (by omega)]
    constructor
    · intro z
      refine ⟨z.1.2, fun w => ?_⟩
      have h9 := z.2
      rw [decide_eq_true w.symm] at h9
      exact absurd h9 (by decide)
    · intro z
      refine ⟨⟨hi, z.1⟩, ?_⟩
      rw [decide_eq_false (fun w => z.2 w.symm)]; rfl
theorem ex_my (hN : N_n N ≤ 16) (hP : PBi N pb) (hk : mCm N k) (hp : p < 10) {i : Nat} (hi : i < N_n N) : ((jEx pb (nI p) k &&& zbt (nI i)) = 0) ↔ ¬ mMy N (nI p) k (nI i) = true := by
  unfold jEx mMy
  rw [op_eq hN hP hk hp, zPb_pl hP hp, zbt_n (by omega), bt_and_sh (by omega), decide_eq_true_eq]
  have hall : (mPA N (nI p) (N_n N) = (1 : Int32) <<< (nI i &&& 31)) → mOp N (nI p) k = 0 ∨ ¬ nI i = k := by
    intro z
    by_cases h : nI i = k
    · refine Or.inl (bt_ext (fun j hj => ?_))
      rw [bt_0]
      by_cases hj2 : j < N_n N
      · rw [bt_Op hN hk hj2]
        refine decide_eq_false (fun w => ?_)
        have h9 := congrArg (fun u => bt u j) z
        simp only [bt_PA _ hN j hj, bt_sh (show i < 32 by omega) hj] at h9
        rw [decide_eq_true (show j < N_n N ∧ mAt N (nI j) (nI p) = true from ⟨hj2, w.1⟩)] at h9
        have h8 : i = j := of_decide_eq_true h9.symm
        subst h8
        exact w.2 h
      · exact op_hi hN (by omega) hj _
    · exact Or.inr h
  by_cases h0 : mOp N (nI p) k = 0
  · rw [if_pos h0, bt_PA _ hN i (by omega), decide_eq_false_iff_not]
    have hz : bt (mOp N (nI p) k) i = false := by rw [h0, bt_0]
    rw [bt_Op hN hk hi, decide_eq_false_iff_not] at hz
    constructor
    · intro z w; exact z ⟨hi, w.1⟩
    · intro z w
      refine z ⟨w.2, ?_⟩
      by_cases h : nI i = k
      · refine Or.inr (bt_ext (fun j hj => ?_))
        rw [bt_PA _ hN j hj, bt_sh (by omega) hj, Bool.eq_iff_iff, decide_eq_true_eq, decide_eq_true_eq]
        constructor
        · intro u
          have hz2 : bt (mOp N (nI p) k) j = false := by rw [h0, bt_0]
          rw [bt_Op hN hk u.1, decide_eq_false_iff_not] at hz2
          have h7 : nI j = k := Classical.byContradiction fun v => hz2 ⟨u.2, v⟩
          rw [← h, nI_eq (by omega) (by omega)] at h7
          exact h7.symm
        · intro u; subst u; exact ⟨hi, w.2⟩
      · exact Or.inl h
  · rw [if_neg h0, bt_Op hN hk hi, decide_eq_false_iff_not]
    constructor
    · intro z w
      rcases w.2 with u | u
      · exact z ⟨w.1, u⟩
      · rcases hall u with v | v
        · exact h0 v
        · exact z ⟨w.1, v⟩
    · intro z w; exact z ⟨w.1, Or.inl w.2⟩
/-- where the ways behind an arc are kept -/
theorem wix (hN : N_n N ≤ 16) {n : Nat} (hn : n ≤ 6) {i : Nat} (hi : i < N_n N) (x : Int32) : ∃ sd : Nat, (sd = 0 ∨ sd = 1) ∧ (∀ f : Nat → Int32, rg 256 f ((nI n + 1) * 32 + jArc N x (nI i)) = f ((n + 1) * 32 + (2 * i + sd))) ∧ mOE N i x = (if sd = 1 then N_b N i else N_a N i) := by
  obtain ⟨sd, h1, h2, h3⟩ := arc_eq hN hi x
  refine ⟨sd, h1, fun f => ?_, h3⟩
  rw [h2, nI_1, show (32 : Int32) = nI 32 from rfl, pk_mul, nI_add, rg_in (by omega) (by decide)]
theorem jWs_congr (hN : N_n N ≤ 16) {n : Nat} (hn : n ≤ 6) {f g : Nat → Int32} (h : ∀ y, (n + 1) * 32 ≤ y → f y = g y) {x : Int32} : ∀ i, i ≤ N_n N → jWs N pb f (nI n) x k i = jWs N pb g (nI n) x k i
  | 0, _ => rfl
  | i + 1, hi => by
    obtain ⟨sd, -, h2, -⟩ := wix hN hn (show i < N_n N by omega) x
    rw [jWs, jWs, jWs_congr hN hn h i (by omega), h2, h2, h _ (by omega)]
theorem jWo_congr (hN : N_n N ≤ 16) (ho : o.1 ≤ 8) {n : Nat} (hn : n < o.1) {f g : Nat → Int32} (h : ∀ y, (n + 1) * 32 ≤ y → f y = g y) {x : Int32} : jWo S sb q N pb o f (nI n) x k = jWo S sb q N pb o g (nI n) x k := by
  unfold jWo
  by_cases hl : n + 1 = o.1
  · have hl2 : nI n = nI o.1 - 1 := by rw [show nI o.1 - 1 = nI (o.1 - 1) from pk_sub (a := o.1) (b := 1) (by omega), show o.1 - 1 = n by omega]
    rw [if_pos hl2, if_pos hl2]
  · rw [jWs_congr hN (show n ≤ 6 by omega) h (N_n N) (Nat.le_refl _)]
theorem jW1_out {j : Nat} {wy : Nat → Int32} : ∀ i y, (y < j * 32 ∨ j * 32 + i ≤ y) → jW1 S sb q N pb o j wy i y = wy y
  | 0, _, _ => rfl
  | i + 1, y, h => by rw [jW1, pk_un (show y ≠ j * 32 + i by omega), jW1_out i y (by omega)]
theorem jW1_at (hN : N_n N ≤ 16) (ho : o.1 ≤ 8) {j : Nat} (hj : j < o.1) {wy : Nat → Int32} : ∀ m i, i < m → m ≤ 2 * N_n N → jW1 S sb q N pb o j wy m (j * 32 + i) = jWo S sb q N pb o (jW1 S sb q N pb o j wy (2 * N_n N)) (nI j) (jEnd N (nI i)) (nI i >>> ((1 : Int32) &&& 31))
  | 0, _, h, _ => absurd h (Nat.not_lt_zero _)
  | m + 1, i, h, hm => by
    rw [jW1]
    by_cases e : i = m
    · subst e; rw [pk_us]; exact jWo_congr hN ho hj (fun y hy => by rw [jW1_out _ y (by omega), jW1_out _ y (by omega)])
    · rw [pk_un (show j * 32 + i ≠ j * 32 + m by omega)]; exact jW1_at hN ho hj m i (by omega) (by omega)
theorem jWd_fx (hN : N_n N ≤ 16) (ho : o.1 ≤ 8) {wy : Nat → Int32} : ∀ d, d + 1 ≤ o.1 → ∀ n, o.1 - d ≤ n → n < o.1 → ∀ i, i < 2 * N_n N → jWd S sb q N pb o wy d (n * 32 + i) = jWo S sb q N pb o (jWd S sb q N pb o wy d) (nI n) (jEnd N (nI i)) (nI i >>> ((1 : Int32) &&& 31))
  | 0, _, n, h1, h2, _, _ => by omega
  | d + 1, hd, n, h1, h2, i, hi => by
    rw [jWd]
    by_cases e : n = o.1 - 1 - d
    · subst e; exact jW1_at hN ho (by omega) (2 * N_n N) i hi (Nat.le_refl _)
    · rw [jW1_out (2 * N_n N) _ (by omega), jWd_fx hN ho d (by omega) n (by omega) h2 i hi]
      exact jWo_congr hN ho h2 (fun y hy => (jW1_out (2 * N_n N) y (by omega)).symm)
/-- the ways that go on at a note, from a place, come by a path -/
theorem wo_eq (hN : N_n N ≤ 16) (hS : S_n S ≤ 24) (hP : PBi N pb) (hB : SBi S sb) (hK : KDi S) (hE : NE N) (ho : o.1 ≤ 8) {n : Nat} (hn : n < o.1) (hk : mCm N k) (hp : p < 10) {wy G : Nat → Int32}
    (hG : n + 1 < o.1 → ∀ j, j < N_n N → ∀ sd, (sd = 0 ∨ sd = 1) → ∀ a : Nat, a < 10 → (if sd = 1 then N_b N j else N_a N j) = nI a → wy ((n + 1) * 32 + (2 * j + sd)) = G (170 * (n + 1) + 17 * a + j)) :
    jWo S sb q N pb o wy (nI n) (nI p) k = if mIn S q N o n (nI p) k = true then mWm N o n G (nI p) k (N_n N) else 0 := by
  unfold jWo mIn
  rw [rg_in hn (show o.1 < 2 ^ 31 by omega), ks_kd hN hS hB hK hk _ (Nat.le_refl _)]
  have hi9 : (¬ o.2 n = -1 ∧ ¬ o.2 n = mKd (mSe S q N (nI p) k (S_n S)) S (S_n S)) ↔ ¬ (o.2 n = -1 ∨ o.2 n = mKd (mSe S q N (nI p) k (S_n S)) S (S_n S)) := not_or.symm
  by_cases h : o.2 n = -1 ∨ o.2 n = mKd (mSe S q N (nI p) k (S_n S)) S (S_n S)
  · rw [if_neg (fun z => hi9.mp z h), if_pos (decide_eq_true h), show nI o.1 - 1 = nI (o.1 - 1) from pk_sub (a := o.1) (b := 1) (by omega)]
    have hnl : nI n = nI (o.1 - 1) ↔ n = o.1 - 1 := nI_eq (by omega) (by omega)
    by_cases hl : n + 1 = o.1
    · rw [if_pos (hnl.mpr (by omega)), mWm_1 hl]
    · rw [if_neg (fun z => hl (by have := hnl.mp z; omega))]
      have hs : ∀ i, i ≤ N_n N → jWs N pb wy (nI n) (nI p) k i = mWm N o n G (nI p) k i := by
        intro i
        induction i with
        | zero => intro _; rw [jWs, mWm, if_neg hl]
        | succ i ih =>
          intro hi
          obtain ⟨sd, h1, h2, h3⟩ := wix hN (show n ≤ 6 by omega) (show i < N_n N by omega) (nI p)
          obtain ⟨a, ha, ea⟩ := mOE_ne hE (show i < N_n N by omega) (nI p)
          rw [jWs, mWm, if_neg hl, ih (by omega), h2, hG (by omega) i (by omega) sd h1 a ha (by rw [← h3, ea]), ea, nI_cl (by omega)]
          by_cases hm : mMy N (nI p) k (nI i) = true
          · rw [if_pos hm, if_neg (fun z => (ex_my hN hP hk hp (by omega)).mp z hm)]
          · rw [if_neg hm, if_pos ((ex_my hN hP hk hp (by omega)).mpr hm), Int32.add_zero]
      exact hs _ (Nat.le_refl _)
  · rw [if_pos (hi9.mpr h), if_neg (fun z => h (of_decide_eq_true z))]
theorem sh_arc (hN : N_n N ≤ 16) {j sd : Nat} (hj : j < N_n N) (hs : sd = 0 ∨ sd = 1) : nI (2 * j + sd) >>> ((1 : Int32) &&& 31) = nI j := by
  rw [a2_all ⟨2 * j + sd, by omega⟩]
  show nI ((2 * j + sd) / 2) = nI j
  rw [show (2 * j + sd) / 2 = j by omega]
/-- what the class keeps by arc is what the reference keeps by place and path -/
theorem wy_eq (hN : N_n N ≤ 16) (hS : S_n S ≤ 24) (hP : PBi N pb) (hB : SBi S sb) (hK : KDi S) (hE : NE N) (ho : o.1 ≤ 8) {wy f : Nat → Int32} : ∀ d n, n + 1 + d = o.1 → 1 ≤ n → ∀ j, j < N_n N → ∀ sd, (sd = 0 ∨ sd = 1) → ∀ a : Nat, a < 10 → (if sd = 1 then N_b N j else N_a N j) = nI a → jWy S sb q N pb o wy (n * 32 + (2 * j + sd)) = mWd S q N o f o.1 (170 * n + 17 * a + j) := by
  intro d
  induction d with
  | zero =>
    intro n hd h1 j hj sd hs a ha ea
    have hat : mAt N (nI j) (nI a) = true := by
      unfold mAt
      rw [decide_eq_true_eq, nI_cl (by omega)]
      refine ⟨⟨nI_pos' (by omega), by rw [show nI (N_n N) - 1 = nI (N_n N - 1) from pk_sub (a := N_n N) (b := 1) (by omega), nI_leI (by omega) (by omega)]; omega⟩, ?_⟩
      rcases hs with u | u <;> subst u
      · rw [if_neg (by decide)] at ea; exact Or.inl ea
      · rw [if_pos rfl] at ea; exact Or.inr ea
    unfold jWy
    rw [jWd_fx hN ho (o.1 - 1) (by omega) n (by omega) (by omega) (2 * j + sd) (by omega), end_eq hN hj hs, ea, sh_arc hN hj hs, Nat.add_assoc, mWd_fix (by omega) (by omega)]
    unfold mWv
    rw [mPth_u (by omega), show (17 * a + j) / 17 = a by omega, wo_eq hN hS hP hB hK hE ho (by omega) (Or.inr ⟨j, hj, rfl⟩) ha (fun z => by omega)]
    by_cases h : mIn S q N o n (nI a) (nI j) = true
    · rw [if_pos h, if_pos ⟨Or.inr hat, h⟩]
    · rw [if_neg h, if_neg (fun z => h z.2)]
  | succ d ih =>
    intro n hd h1 j hj sd hs a ha ea
    have hat : mAt N (nI j) (nI a) = true := by
      unfold mAt
      rw [decide_eq_true_eq, nI_cl (by omega)]
      refine ⟨⟨nI_pos' (by omega), by rw [show nI (N_n N) - 1 = nI (N_n N - 1) from pk_sub (a := N_n N) (b := 1) (by omega), nI_leI (by omega) (by omega)]; omega⟩, ?_⟩
      rcases hs with u | u <;> subst u
      · rw [if_neg (by decide)] at ea; exact Or.inl ea
      · rw [if_pos rfl] at ea; exact Or.inr ea
    unfold jWy
    rw [jWd_fx hN ho (o.1 - 1) (by omega) n (by omega) (by omega) (2 * j + sd) (by omega), end_eq hN hj hs, ea, sh_arc hN hj hs, Nat.add_assoc, mWd_fix (by omega) (by omega)]
    unfold mWv
    rw [mPth_u (by omega), show (17 * a + j) / 17 = a by omega, show jWd S sb q N pb o wy (o.1 - 1) = jWy S sb q N pb o wy from rfl, wo_eq (G := mWd S q N o f o.1) hN hS hP hB hK hE ho (by omega) (Or.inr ⟨j, hj, rfl⟩) ha (fun _ => ih (n + 1) (by omega) (by omega))]
    by_cases h : mIn S q N o n (nI a) (nI j) = true
    · rw [if_pos h, if_pos ⟨Or.inr hat, h⟩]
    · rw [if_neg h, if_neg (fun z => h z.2)]
theorem wf_eq (hN : N_n N ≤ 16) (hS : S_n S ≤ 24) (hP : PBi N pb) (hB : SBi S sb) (hK : KDi S) (hE : NE N) (ho : o.1 ≤ 8) {wy f : Nat → Int32} (hp : p < 10) : jWf S sb q N pb o wy (nI p) = if o.1 = 0 then 1 else mWd S q N o f o.1 (17 * p + 16) := by
  unfold jWf
  by_cases h0 : o.1 = 0
  · rw [if_pos h0, if_pos h0]
  · rw [if_neg h0, if_neg h0, show (0 : Int32) = nI 0 from rfl, wo_eq (G := mWd S q N o f o.1) hN hS hP hB hK hE ho (by omega) (Or.inl rfl) hp (fun h => wy_eq hN hS hP hB hK hE ho (o.1 - 2) 1 (by omega) (Nat.le_refl _)), show 17 * p + 16 = 170 * 0 + (17 * p + 16) by omega, mWd_fix (by omega) (by omega)]
    unfold mWv
    have h1 : mPth (17 * p + 16) = -1 := by unfold mPth; rw [if_pos (by omega)]
    rw [h1, show (17 * p + 16) / 17 = p by omega]
    by_cases h : mIn S q N o 0 (nI p) (-1) = true
    · rw [if_pos h, if_pos ⟨Or.inl rfl, h⟩]
    · rw [if_neg h, if_neg (fun z => h z.2)]
theorem e_ways {wy : Nat → Int32} {z : TZ} {x : Int32} (hN : N_n N ≤ 16) (hS : S_n S ≤ 24) (hP : PBi N pb) (hB : SBi S sb) (hK : KDi S) (hE : NE N) (ho : o.1 ≤ 8) : (mXways N S q o z x).1 = (jXways S sb q N pb o wy x).1 := by
  unfold mXways jXways
  by_cases h1 : 0 ≤ x ∧ x ≤ 9
  · rw [if_pos h1, if_pos h1]
    obtain ⟨p, hp, ep⟩ := pl_of h1
    subst ep
    show (if o.1 = 0 then 1 else (mWd S q N o z.2.2.2.2.2.1 o.1) (17 * (nI p).toNatClampNeg + 16)) = jWf S sb q N pb o wy (nI p)
    rw [nI_cl (by omega), wf_eq hN hS hP hB hK hE ho hp]
  · rw [if_neg h1, if_neg h1]
end ZY
