/-! hounds at a fork: both sides -/
/-- branches' lengths -/
def FLi (fo : TF) : Prop := ∀ b, b < fo.1 → ∃ v : Nat, v ≤ 20 ∧ fo.2 b = nI v
def fv (fo : TF) (b : Nat) : Nat := (fo.2 b).toNatClampNeg
theorem fv_eq {fo : TF} (h : FLi fo) {b : Nat} (hb : b < fo.1) : fo.2 b = nI (fv fo b) ∧ fv fo b ≤ 20 := by
  obtain ⟨v, hv, e⟩ := h b hb
  have h9 : fv fo b = v := by unfold fv; rw [e, nI_cl (by omega)]
  rw [h9]; exact ⟨e, hv⟩
/-- a row of figures -/
def DG (n hh : Nat) (u : Nat → Nat) (tr : Nat → Int32) : Prop := ∀ b, b < n → tr b = nI (u b) ∧ u b < hh
section ZF
variable {fo : TF} {hh : Nat} {u : Nat → Nat} {tr : Nat → Int32}
theorem sm_eq (hF : FLi fo) (h3 : hh ≤ 3) (hd : DG fo.1 hh u tr) {h : Nat} (hh9 : h < hh) : ∀ b, b ≤ fo.1 → jSm fo tr (nI h) b = nI (nSm (fv fo) u h b) ∧ nSm (fv fo) u h b ≤ 20 * b
  | 0, _ => ⟨rfl, Nat.le_refl _⟩
  | b + 1, hb => by
    obtain ⟨i1, i2⟩ := sm_eq hF h3 hd hh9 b (by omega)
    obtain ⟨d1, d2⟩ := hd b (by omega)
    obtain ⟨f1, f2⟩ := fv_eq hF (show b < fo.1 by omega)
    have he : (nI (u b) = nI h) ↔ u b = h := nI_eq (by omega) (by omega)
    rw [jSm, nSm, i1, d1, f1]
    by_cases c : u b = h
    · rw [if_pos (he.mpr c), if_pos c, nI_add]; exact ⟨rfl, by omega⟩
    · rw [if_neg (fun z => c (he.mp z)), if_neg c]; exact ⟨Int32.add_zero _, by omega⟩
theorem lg_eq (hF : FLi fo) (h3 : hh ≤ 3) (hd : DG fo.1 hh u tr) {h : Nat} (hh9 : h < hh) : ∀ b, b ≤ fo.1 → jLg fo tr (nI h) b = nI (nMx (nPk (fv fo) u h) b) ∧ nMx (nPk (fv fo) u h) b ≤ 20
  | 0, _ => ⟨rfl, by rw [nMx]; omega⟩
  | b + 1, hb => by
    obtain ⟨i1, i2⟩ := lg_eq hF h3 hd hh9 b (by omega)
    obtain ⟨d1, d2⟩ := hd b (by omega)
    obtain ⟨f1, f2⟩ := fv_eq hF (show b < fo.1 by omega)
    have he : (nI (u b) = nI h) ↔ u b = h := nI_eq (by omega) (by omega)
    have hp : (if tr b = nI h then fo.2 b else 0) = nI (nPk (fv fo) u h b) := by
      unfold nPk
      rw [d1, f1]
      by_cases c : u b = h
      · rw [if_pos (he.mpr c), if_pos c]
      · rw [if_neg (fun z => c (he.mp z)), if_neg c]; rfl
    have hp2 : nPk (fv fo) u h b ≤ 20 := by unfold nPk; split <;> omega
    rw [jLg, nMx, hp, i1]
    have hl : (nI (nMx (nPk (fv fo) u h) b) < nI (nPk (fv fo) u h b)) ↔ nMx (nPk (fv fo) u h) b < nPk (fv fo) u h b := nI_ltI (by omega) (by omega)
    by_cases c : nMx (nPk (fv fo) u h) b < nPk (fv fo) u h b
    · rw [if_pos (hl.mpr c), if_pos c]; exact ⟨rfl, hp2⟩
    · rw [if_neg (fun z => c (hl.mp z)), if_neg c]; exact ⟨rfl, i2⟩
theorem pk_le_sm {v : Nat → Nat} {h : Nat} : ∀ n, nMx (nPk v u h) n ≤ nSm v u h n
  | 0 => Nat.le_refl _
  | n + 1 => by
    have := pk_le_sm (v := v) (h := h) n
    have hp : (if u n = h then v n else 0) = nPk v u h n := rfl
    rw [nMx, nSm, hp]
    split <;> omega
theorem wm_eq (hF : FLi fo) (h5 : fo.1 ≤ 5) (h3 : hh ≤ 3) (hd : DG fo.1 hh u tr) : ∀ h, h ≤ hh → jWm fo tr h = nI (nMx (fun h => 2 * nSm (fv fo) u h fo.1 - nMx (nPk (fv fo) u h) fo.1) h) ∧ nMx (fun h => 2 * nSm (fv fo) u h fo.1 - nMx (nPk (fv fo) u h) fo.1) h ≤ 200
  | 0, _ => ⟨rfl, by rw [nMx]; omega⟩
  | h + 1, hb => by
    obtain ⟨i1, i2⟩ := wm_eq hF h5 h3 hd h (by omega)
    obtain ⟨s1, s2⟩ := sm_eq hF h3 hd (show h < hh by omega) fo.1 (Nat.le_refl _)
    obtain ⟨l1, l2⟩ := lg_eq hF h3 hd (show h < hh by omega) fo.1 (Nat.le_refl _)
    have hle := pk_le_sm (u := u) (v := fv fo) (h := h) fo.1
    rw [jWm, nMx, s1, l1, i1, show (2 : Int32) = nI 2 from rfl, pk_mul, pk_sub (by omega)]
    have hl : (nI (nMx (fun h => 2 * nSm (fv fo) u h fo.1 - nMx (nPk (fv fo) u h) fo.1) h) < nI (2 * nSm (fv fo) u h fo.1 - nMx (nPk (fv fo) u h) fo.1)) ↔ nMx (fun h => 2 * nSm (fv fo) u h fo.1 - nMx (nPk (fv fo) u h) fo.1) h < 2 * nSm (fv fo) u h fo.1 - nMx (nPk (fv fo) u h) fo.1 := nI_ltI (by omega) (by omega)
    by_cases c : nMx (fun h => 2 * nSm (fv fo) u h fo.1 - nMx (nPk (fv fo) u h) fo.1) h < 2 * nSm (fv fo) u h fo.1 - nMx (nPk (fv fo) u h) fo.1
    · rw [if_pos (hl.mpr c), if_pos c]; exact ⟨rfl, by omega⟩
    · rw [if_neg (fun z => c (hl.mp z)), if_neg c]; exact ⟨rfl, i2⟩
theorem ah_iff (hF : FLi fo) (h5 : fo.1 ≤ 5) {i b : Nat} (hi : i < fo.1) (hb : b < fo.1) : mAh fo i b = true ↔ (fv fo i < fv fo b ∨ (fv fo i = fv fo b ∧ i < b)) := by
  obtain ⟨f1, f2⟩ := fv_eq hF hi
  obtain ⟨g1, g2⟩ := fv_eq hF hb
  unfold mAh
  rw [decide_eq_true_eq, f1, g1, nI_ltI (by omega) (by omega), nI_eq (by omega) (by omega), nI_ltI (by omega) (by omega)]
theorem fa_eq (hF : FLi fo) (h5 : fo.1 ≤ 5) (h3 : hh ≤ 3) (hu : ∀ b, b < fo.1 → u b < hh) {b : Nat} (hb : b < fo.1) : ∀ i, i ≤ fo.1 → mFa fo hh (nV hh u fo.1) b i = nI (nFa (fv fo) u b i) ∧ nFa (fv fo) u b i ≤ 20 + 40 * i
  | 0, _ => by
    obtain ⟨f1, f2⟩ := fv_eq hF hb
    rw [mFa, nFa]; exact ⟨f1, by omega⟩
  | i + 1, hi => by
    obtain ⟨i1, i2⟩ := fa_eq hF h5 h3 hu hb i (by omega)
    obtain ⟨f1, f2⟩ := fv_eq hF (show i < fo.1 by omega)
    have u1 := hu i (by omega)
    have u2 := hu b hb
    rw [mFa, nFa, i1, mHo_nV (show i < fo.1 by omega) hu, mHo_nV hb hu, f1, show (2 : Int32) = nI 2 from rfl, pk_mul]
    have hc : (mAh fo i b = true ∧ nI (u i) = nI (u b)) ↔ ((fv fo i < fv fo b ∨ (fv fo i = fv fo b ∧ i < b)) ∧ u i = u b) := by
      rw [ah_iff hF h5 (by omega) hb, nI_eq (by omega) (by omega)]
    by_cases c : (fv fo i < fv fo b ∨ (fv fo i = fv fo b ∧ i < b)) ∧ u i = u b
    · rw [if_pos (hc.mpr c), if_pos c, nI_add]; exact ⟨rfl, by omega⟩
    · rw [if_neg (fun z => c (hc.mp z)), if_neg c]; exact ⟨Int32.add_zero _, by omega⟩
theorem ws_eq (hF : FLi fo) (h5 : fo.1 ≤ 5) (h3 : hh ≤ 3) (hu : ∀ b, b < fo.1 → u b < hh) : ∀ b, b ≤ fo.1 → mWs fo hh (nV hh u fo.1) b = nI (nMx (fun b => nFa (fv fo) u b fo.1) b) ∧ nMx (fun b => nFa (fv fo) u b fo.1) b ≤ 220
  | 0, _ => ⟨rfl, by rw [nMx]; omega⟩
  | b + 1, hb => by
    obtain ⟨i1, i2⟩ := ws_eq hF h5 h3 hu b (by omega)
    obtain ⟨f1, f2⟩ := fa_eq hF h5 h3 hu (show b < fo.1 by omega) fo.1 (Nat.le_refl _)
    rw [mWs, nMx, i1, f1]
    have hl : (nI (nMx (fun b => nFa (fv fo) u b fo.1) b) < nI (nFa (fv fo) u b fo.1)) ↔ nMx (fun b => nFa (fv fo) u b fo.1) b < nFa (fv fo) u b fo.1 := nI_ltI (by omega) (by omega)
    by_cases c : nMx (fun b => nFa (fv fo) u b fo.1) b < nFa (fv fo) u b fo.1
    · rw [if_pos (hl.mpr c), if_pos c]; exact ⟨rfl, by omega⟩
    · rw [if_neg (fun z => c (hl.mp z)), if_neg c]; exact ⟨rfl, i2⟩
/-- the worst time of a split -/
theorem wt_eq (hF : FLi fo) (h5 : fo.1 ≤ 5) (h3 : hh ≤ 3) (hd : DG fo.1 hh u tr) : jWm fo tr hh = mWs fo hh (nV hh u fo.1) fo.1 ∧ ∃ v : Nat, v < 2 ^ 30 ∧ jWm fo tr hh = nI v := by
  obtain ⟨w1, w2⟩ := wm_eq hF h5 h3 hd hh (Nat.le_refl _)
  have hu : ∀ b, b < fo.1 → u b < hh := fun b hb => (hd b hb).2
  obtain ⟨s1, s2⟩ := ws_eq hF h5 h3 hu fo.1 (Nat.le_refl _)
  refine ⟨?_, _, ?_, w1⟩
  · rw [w1, s1, worst_eq hu]
  · omega
end ZF
theorem tn_sp {n hh : Nat} (h3 : hh ≤ 3) : ∀ b, b ≤ n → ∀ (u : Nat → Nat) (tr : Nat → Int32), DG n hh u tr → ∃ u' : Nat → Nat, DG n hh u' (jTn (nI hh) b tr).2 ∧ (∀ i, b ≤ i → u' i = u i) ∧ (((jTn (nI hh) b tr).1 = 1 ∧ nV hh u' b = nV hh u b + 1) ∨ ((jTn (nI hh) b tr).1 = 0 ∧ nV hh u b + 1 = hh ^ b))
  | 0, _, u, tr, hd => ⟨u, hd, fun _ _ => rfl, Or.inr ⟨rfl, rfl⟩⟩
  | b + 1, hb, u, tr, hd => by
    obtain ⟨d1, d2⟩ := hd b (by omega)
    have hl : (tr b + 1 < nI hh) ↔ u b + 1 < hh := by rw [d1, nI_1, nI_ltI (by omega) (by omega)]
    rw [jTn]
    by_cases c : u b + 1 < hh
    · rw [if_pos (hl.mpr c)]
      refine ⟨fun i => if i = b then u b + 1 else u i, fun i hi => ?_, fun i hi => if_neg (by omega), Or.inl ⟨rfl, ?_⟩⟩
      · show upd tr b (tr b + 1) i = nI (if i = b then u b + 1 else u i) ∧ (if i = b then u b + 1 else u i) < hh
        by_cases e : i = b
        · subst e; rw [pk_us, if_pos rfl, d1, nI_1]; exact ⟨rfl, c⟩
        · rw [pk_un e, if_neg e]; exact hd i hi
      · rw [nV, nV, if_pos rfl, nV_congr (u := fun i => if i = b then u b + 1 else u i) (w := u) b (fun i hi => if_neg (by omega))]
        omega
    · rw [if_neg (fun z => c (hl.mp z))]
      have hub : u b + 1 = hh := by omega
      have hd0 : DG n hh (fun i => if i = b then 0 else u i) (upd tr b 0) := fun i hi => by
        show upd tr b 0 i = nI (if i = b then 0 else u i) ∧ (if i = b then 0 else u i) < hh
        by_cases e : i = b
        · subst e; rw [pk_us, if_pos rfl]; exact ⟨rfl, by omega⟩
        · rw [pk_un e, if_neg e]; exact hd i hi
      have hc0 : nV hh (fun i => if i = b then 0 else u i) b = nV hh u b := nV_congr b (fun i hi => if_neg (by omega))
      obtain ⟨u', h1, h2, h4⟩ := tn_sp h3 b (by omega) _ _ hd0
      rw [hc0] at h4
      have hub0 : u' b = 0 := (h2 b (Nat.le_refl _)).trans (if_pos rfl)
      refine ⟨u', h1, fun i hi => (h2 i (by omega)).trans (if_neg (by omega)), ?_⟩
      rcases h4 with ⟨g1, g2⟩ | ⟨g1, g2⟩
      · refine Or.inl ⟨g1, ?_⟩
        rw [nV, nV, g2, hub0, Nat.mul_add, Nat.mul_one]; omega
      · refine Or.inr ⟨g1, ?_⟩
        rw [nV, Nat.pow_succ, ← g2, Nat.mul_comm (nV hh u b + 1) hh, Nat.mul_add, Nat.mul_one]; omega
theorem kt_at {tr be : Nat → Int32} : ∀ n i, i < n → jKt tr be n i = tr i
  | 0, _, h => absurd h (Nat.not_lt_zero _)
  | n + 1, i, h => by
    rw [jKt]
    by_cases e : i = n
    · subst e; exact pk_us
    · rw [pk_un e]; exact kt_at n i (by omega)
theorem t0_at {tr : Nat → Int32} : ∀ n i, i < n → jT0 tr n i = 0
  | 0, _, h => absurd h (Nat.not_lt_zero _)
  | n + 1, i, h => by
    rw [jT0]
    by_cases e : i = n
    · subst e; exact pk_us
    · rw [pk_un e]; exact t0_at n i (by omega)
theorem pow_243 {hh n : Nat} (h3 : hh ≤ 3) (h5 : n ≤ 5) : hh ^ n ≤ 243 := by
  have h1 : hh ^ n ≤ 3 ^ n := Nat.pow_le_pow_left h3 n
  have h2 : (3 : Nat) ^ n ≤ 3 ^ 5 := Nat.pow_le_pow_right (by decide) h5
  have h4 : (3 : Nat) ^ 5 = 243 := rfl
  omega
/-- the best split, kept -/
def BS (fo : TF) (hh : Nat) (m : Nat) (be : Nat → Int32) (le : Int32) : Prop := ∃ w : Nat → Nat, DG fo.1 hh w be ∧ mBf fo hh m = (nI (nV hh w fo.1), le) ∧ ∃ v : Nat, v < 2 ^ 30 ∧ le = nI v
theorem fb_sp {fo : TF} {hh : Nat} (hF : FLi fo) (h5 : fo.1 ≤ 5) (h3 : hh ≤ 3) : ∀ (f : Nat) (u : Nat → Nat) (tr be : Nat → Int32) (le : Int32), DG fo.1 hh u tr → nV hh u fo.1 + f = 242 → BS fo hh (nV hh u fo.1 + 1) be le → BS fo hh (hh ^ fo.1) (jFb fo hh f tr be le).2.1 (jFb fo hh f tr be le).2.2
  | 0, u, tr, be, le, hd, hs, hB => by
    have h9 := nV_lt fo.1 (fun b hb => (hd b hb).2)
    have h8 := pow_243 h3 h5
    rw [show hh ^ fo.1 = nV hh u fo.1 + 1 by omega]
    exact hB
  | f + 1, u, tr, be, le, hd, hs, hB => by
    obtain ⟨u', d1, -, d2⟩ := tn_sp h3 fo.1 (Nat.le_refl _) u tr hd
    rw [jFb]
    rcases d2 with ⟨g1, g2⟩ | ⟨g1, g2⟩
    · rw [g1, if_neg (by decide)]
      obtain ⟨w1, v1, hv1, ev1⟩ := wt_eq hF h5 h3 d1
      obtain ⟨w, k1, k2, v2, hv2, ev2⟩ := hB
      have hle : ¬ le = -1 := by rw [ev2]; exact nI_nm1 (by omega)
      have hnx : mBf fo hh (nV hh u' fo.1 + 1) = if jWm fo (jTn (nI hh) fo.1 tr).2 hh < le then (nI (nV hh u' fo.1), jWm fo (jTn (nI hh) fo.1 tr).2 hh) else (nI (nV hh w fo.1), le) := by
        rw [mBf, g2, k2, ← g2, ← w1]
        by_cases c : jWm fo (jTn (nI hh) fo.1 tr).2 hh < le
        · rw [if_pos c, if_pos (Or.inr c)]
        · rw [if_neg c, if_neg (fun z => z.elim hle c)]
      by_cases c : jWm fo (jTn (nI hh) fo.1 tr).2 hh < le
      · rw [if_pos c]
        rw [if_pos c] at hnx
        refine fb_sp hF h5 h3 f u' _ _ _ d1 (by omega) ⟨u', fun b hb => ?_, hnx, v1, hv1, ev1⟩
        rw [kt_at fo.1 b hb]; exact d1 b hb
      · rw [if_neg c]
        rw [if_neg c] at hnx
        exact fb_sp hF h5 h3 f u' _ _ _ d1 (by omega) ⟨w, k1, hnx, v2, hv2, ev2⟩
    · rw [g1, if_pos rfl]
      rw [← g2]
      exact hB
theorem nV_0 {hh : Nat} : ∀ n, nV hh (fun _ => 0) n = 0
  | 0 => rfl
  | n + 1 => by rw [nV, nV_0 n]; rfl
theorem bs_sp {fo : TF} {hh : Nat} (hF : FLi fo) (h5 : fo.1 ≤ 5) (h3 : hh ≤ 3) (h1 : 1 ≤ hh) (tr be : Nat → Int32) : BS fo hh (hh ^ fo.1) (jBs fo hh tr be).2.1 (jBs fo hh tr be).2.2 := by
  have hd : DG fo.1 hh (fun _ => 0) (jT0 tr fo.1) := fun b hb => ⟨t0_at fo.1 b hb, show 0 < hh from h1⟩
  obtain ⟨w1, v1, hv1, ev1⟩ := wt_eq hF h5 h3 hd
  have hn0 : nV hh (fun _ => 0) fo.1 = 0 := nV_0 fo.1
  refine fb_sp hF h5 h3 242 (fun _ => 0) _ _ _ hd (by rw [hn0]) ⟨fun _ => 0, fun b hb => ?_, ?_, v1, hv1, ev1⟩
  · rw [kt_at fo.1 b hb]; exact hd b hb
  · rw [w1, hn0, mBf]; exact if_pos (Or.inl rfl)
section ZQ
variable {fo : TF} {tr be : Nat → Int32} {z : TZ}
theorem hh_of {x : Int32} (h : 1 ≤ x ∧ x ≤ 3) : ∃ hh : Nat, 1 ≤ hh ∧ hh ≤ 3 ∧ x = nI hh := by
  obtain ⟨j, hj, ej⟩ := nI_of2 (M := 3) (n := 3) (x := x) (by decide) (fun h9 => absurd (Int32.lt_of_le_of_lt h.1 h9) (by decide)) h.2
  refine ⟨j, ?_, hj, ej⟩
  have h9 := h.1
  rw [ej, show (1 : Int32) = nI 1 from rfl, nI_leI (by decide) (by omega)] at h9
  exact h9
theorem e_worst {x : Int32} (hF : FLi fo) (h5 : fo.1 ≤ 5) : (mXworst fo z x).1 = (jXworst fo tr be x).1 := by
  unfold mXworst jXworst
  by_cases h1 : 1 ≤ x ∧ x ≤ 3
  · rw [if_pos h1, if_pos h1]
    obtain ⟨hh, g1, g2, ex⟩ := hh_of h1
    subst ex
    rw [nI_cl (by omega)]
    obtain ⟨w, k1, k2, -⟩ := bs_sp hF h5 g2 g1 tr be
    rw [k2]
  · rw [if_neg h1, if_neg h1]
theorem bf_iff (hF : FLi fo) (h5 : fo.1 ≤ 5) {i b : Nat} (hi : i < fo.1) (hb : b < fo.1) : jBf fo (nI i) (nI b) = mAh fo i b := by
  obtain ⟨f1, f2⟩ := fv_eq hF hi
  obtain ⟨g1, g2⟩ := fv_eq hF hb
  unfold jBf mAh
  rw [rg_in hi (by omega), rg_in hb (by omega), f1, g1, Bool.eq_iff_iff, decide_eq_true_eq, decide_eq_true_eq]
  have hs := pk_sub_toInt (a := fv fo i) (b := fv fo b) (by omega) (by omega)
  have hlt : (nI (fv fo i) - nI (fv fo b) < 0) ↔ nI (fv fo i) < nI (fv fo b) := by
    rw [Int32.lt_iff_toInt_lt, hs, show (0 : Int32).toInt = 0 from rfl, nI_ltI (by omega) (by omega)]; omega
  have heq : (nI (fv fo i) - nI (fv fo b) = 0) ↔ nI (fv fo i) = nI (fv fo b) := by
    rw [← Int32.toInt_inj, hs, show (0 : Int32).toInt = 0 from rfl, nI_eq (by omega) (by omega)]; omega
  rw [hlt, heq]
theorem tm_fa (hF : FLi fo) (h5 : fo.1 ≤ 5) {hh : Nat} (h3 : hh ≤ 3) {w : Nat → Nat} (hd : DG fo.1 hh w be) {b : Nat} (hb : b < fo.1) : ∀ i, i ≤ fo.1 → jTm fo be (nI b) i = mFa fo hh (nV hh w fo.1) b i
  | 0, _ => by rw [jTm, mFa, rg_in hb (by omega)]
  | i + 1, hi => by
    have hu : ∀ b, b < fo.1 → w b < hh := fun b hb => (hd b hb).2
    rw [jTm, mFa, tm_fa hF h5 h3 hd hb i (by omega), bf_iff hF h5 (by omega) hb, rg_in (show i < 5 by omega) (by decide), rg_in (show b < 5 by omega) (by decide), (hd i (by omega)).1, (hd b hb).1, mHo_nV (show i < fo.1 by omega) hu, mHo_nV hb hu]
    by_cases c : mAh fo i b = true ∧ nI (w i) = nI (w b)
    · rw [if_pos c, if_pos ⟨c.2, c.1⟩]
    · rw [if_neg c, if_neg (fun z => c ⟨z.2, z.1⟩), Int32.add_zero]
theorem e_split {x y v : Int32} (hF : FLi fo) (h5 : fo.1 ≤ 5) : (mXsplit fo z x y v).1 = (jXsplit fo tr be x y v).1 := by
  unfold mXsplit jXsplit
  by_cases h0 : 0 ≤ y ∧ y ≤ nI fo.1 - 1
  · rw [if_pos h0, if_pos h0]
    obtain ⟨b, hb, ey⟩ := ix_of h0 (by omega)
    subst ey
    by_cases h1 : 1 ≤ x ∧ x ≤ 3
    · rw [if_pos h1, if_pos h1]
      obtain ⟨hh, g1, g2, ex⟩ := hh_of h1
      subst ex
      obtain ⟨w, k1, k2, -⟩ := bs_sp hF h5 g2 g1 tr be
      have hu : ∀ b, b < fo.1 → w b < hh := fun b hb => (k1 b hb).2
      have hsp : mSp fo hh = nV hh w fo.1 := by
        unfold mSp
        have h9 := nV_lt fo.1 hu
        have h8 := pow_243 g2 h5
        rw [k2, nI_cl (by omega)]
      by_cases h2 : 0 ≤ v ∧ v ≤ 1
      · rw [if_pos h2, if_pos h2]
        by_cases h4 : v = 0
        · rw [if_pos h4, if_pos h4]
          show nI (mHo fo.1 (nI hh).toNatClampNeg (mSp fo (nI hh).toNatClampNeg) (nI b).toNatClampNeg) = rg 5 (jBs fo (nI hh).toNatClampNeg tr be).2.1 (nI b)
          rw [nI_cl (show hh < 2 ^ 31 by omega), nI_cl (show b < 2 ^ 31 by omega), hsp, mHo_nV hb hu, rg_in (by omega) (by decide), (k1 b hb).1]
        · rw [if_neg h4, if_neg h4]
          show mFa fo (nI hh).toNatClampNeg (mSp fo (nI hh).toNatClampNeg) (nI b).toNatClampNeg fo.1 = jTm fo (jBs fo (nI hh).toNatClampNeg tr be).2.1 (nI b) fo.1
          rw [nI_cl (show hh < 2 ^ 31 by omega), nI_cl (show b < 2 ^ 31 by omega), hsp, tm_fa hF h5 g2 k1 hb fo.1 (Nat.le_refl _)]
      · rw [if_neg h2, if_neg h2]
    · rw [if_neg h1, if_neg h1]
  · rw [if_neg h0, if_neg h0]
end ZQ
