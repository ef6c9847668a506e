/-! the walk: both sides -/
/-- the ends of a path are unlike -/
def NDi (N : TN) : Prop := ∀ i, i < N_n N → ¬ N_a N i = N_b N i
theorem a1_all : ∀ a : Fin 32, (nI a.1 &&& 1) = nI (a.1 % 2) := by decide +kernel
theorem a2_all : ∀ a : Fin 32, nI a.1 >>> ((1 : Int32) &&& 31) = nI (a.1 / 2) := by decide +kernel
theorem arc_eq {N : TN} (hN : N_n N ≤ 16) {j : Nat} (hj : j < N_n N) (p : Int32) : ∃ sd : Nat, (sd = 0 ∨ sd = 1) ∧ jArc N p (nI j) = nI (2 * j + sd) ∧ mOE N j p = (if sd = 1 then N_b N j else N_a N j) := by
  unfold jArc mOE
  rw [rg_in hj (show N_n N < 2 ^ 31 by omega), show (2 : Int32) = nI 2 from rfl, pk_mul]
  by_cases h : N_a N j = p
  · exact ⟨1, Or.inr rfl, by rw [if_pos h, nI_1], by rw [if_pos h, if_pos rfl]⟩
  · exact ⟨0, Or.inl rfl, by rw [if_neg h, show (0 : Int32) = nI 0 from rfl, nI_add], by rw [if_neg h, if_neg (by decide)]⟩
theorem end_eq {N : TN} (hN : N_n N ≤ 16) {j : Nat} (hj : j < N_n N) {sd : Nat} (hs : sd = 0 ∨ sd = 1) : jEnd N (nI (2 * j + sd)) = (if sd = 1 then N_b N j else N_a N j) := by
  unfold jEnd
  rw [a1_all ⟨2 * j + sd, by omega⟩, a2_all ⟨2 * j + sd, by omega⟩]
  show (if nI ((2 * j + sd) % 2) = 0 then rg (N_n N) (N_a N) (nI ((2 * j + sd) / 2)) else rg (N_n N) (N_b N) (nI ((2 * j + sd) / 2))) = _
  rw [show (2 * j + sd) / 2 = j by omega, rg_in hj (show N_n N < 2 ^ 31 by omega), rg_in hj (show N_n N < 2 ^ 31 by omega)]
  rcases hs with e | e
  · subst e
    rw [if_pos, if_neg (by decide)]
    rw [show (2 * j + 0) % 2 = 0 by omega]; rfl
  · subst e
    rw [if_neg, if_pos rfl]
    rw [show (2 * j + 1) % 2 = 1 by omega]; decide
theorem mCi_n {a j : Nat} (ha : a < 2 ^ 31) (hj : j < 2 ^ 31) : mCi (nI a) (nI j) = 16 * a + j := by
  unfold mCi; rw [nI_cl ha, nI_cl hj]
theorem end_pl {N : TN} (hE : NE N) {j : Nat} (hj : j < N_n N) (sd : Nat) : ∃ a : Nat, a < 10 ∧ (if sd = 1 then N_b N j else N_a N j) = nI a := by
  by_cases h : sd = 1
  · rw [if_pos h]; exact (hE j hj).2
  · rw [if_neg h]; exact (hE j hj).1
theorem nI_nm2 {k : Nat} (h : k < 2 ^ 31) : ¬ nI k = -2 := fun e => absurd (show nI k < 0 by rw [e]; decide) (nI_pos h)
abbrev WE (a : Nat × (Nat → Int32) × Int32 × Int32) (b : TE) : Prop := a.1 = b.2.1 + 1 ∧ a.2.2.1 = b.1 ∧ a.2.2.2 = b.2.2.1 ∧ ∀ i, i ≤ b.2.1 → a.2.1 i = b.2.2.2.1 i
section ZV
variable {S : TS} {sb : Nat → Int32} {q : TQ} {N : TN} {pb : Nat → Int32}
theorem mEn_t {lim : Bool} {x y : Int32} {cm fm : Nat → Int32} {le : Int32} : mEn S q N lim (x, y, cm, fm, le) = if mGo S q N x y = -2 then 2 else if ¬ y = -1 ∧ ¬ cm (mCi x y) = 0 then 3 else if mGo S q N x y < 0 then (if mGo S q N x y = -3 then 1 else 0) else if lim = true then 4 else -1 := rfl
theorem jGo_0t {k : Nat} {x y gn : Int32} {f : Nat → Int32} {le : Int32} : jGo S sb q N pb 0 k (x, y, gn, f, le) = if jCh S sb q N pb x y < 0 then (k + 1, f, -1 - jCh S sb q N pb x y, le) else (k + 1, f, 4, le) := rfl
theorem jGo_st {n k : Nat} {x y gn : Int32} {f : Nat → Int32} {le : Int32} : jGo S sb q N pb (n + 1) k (x, y, gn, f, le) = if jCh S sb q N pb x y < 0 then (k + 1, f, -1 - jCh S sb q N pb x y, le) else
    if (gn &&& ((1 : Int32) <<< (jArc N x (jCh S sb q N pb x y) &&& 31))) = 0 then
    jGo S sb q N pb n (k + 1) (jEnd N (jArc N x (jCh S sb q N pb x y)), jCh S sb q N pb x y, gn ||| ((1 : Int32) <<< (jArc N x (jCh S sb q N pb x y) &&& 31)), upd f (k + 1) (jEnd N (jArc N x (jCh S sb q N pb x y))), le + rg (N_n N) (N_l N) (jCh S sb q N pb x y))
    else (k + 2, upd f (k + 1) (jEnd N (jArc N x (jCh S sb q N pb x y))), 3, le + rg (N_n N) (N_l N) (jCh S sb q N pb x y)) := rfl
theorem mWk_0t {k : Nat} {x y : Int32} {cm fm : Nat → Int32} {le : Int32} : mWk S q N 0 k (x, y, cm, fm, le) = (mEn S q N true (x, y, cm, fm, le), k, le, fm, mCs x y cm) := rfl
theorem mWk_st {n k : Nat} {x y : Int32} {cm fm : Nat → Int32} {le : Int32} : mWk S q N (n + 1) k (x, y, cm, fm, le) = if mEn S q N false (x, y, cm, fm, le) = -1 then mWk S q N n (k + 1) (mOE N (mGo S q N x y).toNatClampNeg x, mGo S q N x y, mCs x y cm, upd fm (k + 1) (mOE N (mGo S q N x y).toNatClampNeg x), le + N_l N (mGo S q N x y).toNatClampNeg) else (mEn S q N false (x, y, cm, fm, le), k, le, fm, mCs x y cm) := rfl
/-- a walk that comes by a path to a place again -/
theorem mWk_3 {n k : Nat} {x y : Int32} {cm fm : Nat → Int32} {le : Int32} (h2 : ¬ mGo S q N x y = -2) (h3 : ¬ y = -1 ∧ ¬ cm (mCi x y) = 0) : mWk S q N n k (x, y, cm, fm, le) = (3, k, le, fm, mCs x y cm) := by
  have he : ∀ lim, mEn S q N lim (x, y, cm, fm, le) = 3 := fun lim => by rw [mEn_t, if_neg h2, if_pos h3]
  cases n with
  | zero => rw [mWk_0t, he]
  | succ n => rw [mWk_st, he, if_neg (by decide)]
theorem walk_eq (hN : N_n N ≤ 16) (hS : S_n S ≤ 24) (hP : PBi N pb) (hB : SBi S sb) (hK : KDi S) (hD : DMi S) (hV : PVi N S) (hE : NE N) (hF : NDi N) : ∀ (n k : Nat) (x y gn : Int32) (f cm fm : Nat → Int32) (le : Int32), (∃ p : Nat, p < 10 ∧ x = nI p) → mCm N y → (∀ i, i ≤ k → f i = fm i) →
    (∀ j, j < N_n N → ∀ s, (s = 0 ∨ s = 1) → (bt gn (2 * j + s) = true ↔ ¬ mCs x y cm (mCi (if s = 1 then N_b N j else N_a N j) (nI j)) = 0)) →
    (∀ p j, p < 10 → j < N_n N → ¬ cm (mCi (nI p) (nI j)) = 0 → ¬ mGo S q N (nI p) (nI j) = -2) → (y = -1 ∨ cm (mCi x y) = 0) →
    WE (jGo S sb q N pb n k (x, y, gn, f, le)) (mWk S q N n k (x, y, cm, fm, le)) := by
  intro n
  induction n with
  | zero =>
    intro k x y gn f cm fm le hx hy hf hm hp h0
    obtain ⟨p, hp10, ex⟩ := hx
    have hc : jCh S sb q N pb x y = cv (mGo S q N x y) := by rw [ex]; exact ch_go hN hS hP hB hK hD hV hy hp10
    have hnf : ¬ (¬ y = -1 ∧ ¬ cm (mCi x y) = 0) := fun z => h0.elim z.1 z.2
    rw [jGo_0t, mWk_0t, mEn_t, hc]
    rcases go_sp (k := y) (q := q) hN hS hV x with e | e | e | ⟨j, hj, e⟩
    · rw [e, if_pos (by decide), if_neg (by decide), if_neg hnf, if_pos (by decide), if_neg (by decide)]
      exact ⟨rfl, show (-1 : Int32) - cv (-1) = 0 from by decide, rfl, hf⟩
    · rw [e, if_pos (by decide), if_pos rfl]
      exact ⟨rfl, show (-1 : Int32) - cv (-2) = 2 from by decide, rfl, hf⟩
    · rw [e, if_pos (by decide), if_neg (by decide), if_neg hnf, if_pos (by decide), if_pos rfl]
      exact ⟨rfl, show (-1 : Int32) - cv (-3) = 1 from by decide, rfl, hf⟩
    · rw [e, cv_n (by omega), if_neg (nI_pos (by omega)), if_neg (nI_nm2 (by omega)), if_neg hnf, if_neg (nI_pos (by omega)), if_pos rfl]
      exact ⟨rfl, rfl, rfl, hf⟩
  | succ n ih =>
    intro k x y gn f cm fm le hx hy hf hm hp h0
    obtain ⟨p, hp10, ex⟩ := hx
    have hc : jCh S sb q N pb x y = cv (mGo S q N x y) := by rw [ex]; exact ch_go hN hS hP hB hK hD hV hy hp10
    have hnf : ¬ (¬ y = -1 ∧ ¬ cm (mCi x y) = 0) := fun z => h0.elim z.1 z.2
    rw [jGo_st, mWk_st, mEn_t, hc]
    rcases go_sp (k := y) (q := q) hN hS hV x with e | e | e | ⟨j, hj, e⟩
    · rw [e, if_pos (by decide), if_neg (by decide : ¬ (-1 : Int32) = -2), if_neg hnf, if_pos (by decide : (-1 : Int32) < 0), if_neg (by decide : ¬ (-1 : Int32) = -3), if_neg (by decide : ¬ (0 : Int32) = -1)]
      exact ⟨rfl, show (-1 : Int32) - cv (-1) = 0 from by decide, rfl, hf⟩
    · rw [e, if_pos (by decide), if_pos (rfl : (-2 : Int32) = -2), if_neg (by decide : ¬ (2 : Int32) = -1)]
      exact ⟨rfl, show (-1 : Int32) - cv (-2) = 2 from by decide, rfl, hf⟩
    · rw [e, if_pos (by decide), if_neg (by decide : ¬ (-3 : Int32) = -2), if_neg hnf, if_pos (by decide : (-3 : Int32) < 0), if_pos (rfl : (-3 : Int32) = -3), if_neg (by decide : ¬ (1 : Int32) = -1)]
      exact ⟨rfl, show (-1 : Int32) - cv (-3) = 1 from by decide, rfl, hf⟩
    · obtain ⟨sd, hsd, ea, eo⟩ := arc_eq hN hj x
      have ee := end_eq hN hj hsd
      obtain ⟨a, ha, ep⟩ := end_pl hE hj sd
      rw [e, cv_n (by omega), if_neg (nI_pos (by omega)), if_neg (nI_nm2 (by omega)), if_neg hnf, if_neg (nI_pos (by omega)), if_neg (show ¬ false = true from Bool.false_ne_true), if_pos (rfl : (-1 : Int32) = -1), nI_cl (by omega), eo, ea, ee, ep, rg_in hj (show N_n N < 2 ^ 31 by omega)]
      have hn1 : ¬ nI j = -1 := nI_nm1 (by omega)
      have hmk := hm j hj sd hsd
      rw [ep] at hmk
      -- the marks behind the step
      have hpas : ∀ p j, p < 10 → j < N_n N → ¬ mCs x y cm (mCi (nI p) (nI j)) = 0 → ¬ mGo S q N (nI p) (nI j) = -2 := by
        intro p9 j9 hp9 hj9 z
        unfold mCs at z
        by_cases hy1 : y = -1
        · rw [if_pos hy1] at z; exact hp p9 j9 hp9 hj9 z
        · rw [if_neg hy1] at z
          by_cases hq : mCi (nI p9) (nI j9) = mCi x y
          · rcases hy with hy2 | ⟨jy, hjy, hy2⟩
            · exact absurd hy2 hy1
            · rw [ex, hy2, mCi_n (by omega) (by omega), mCi_n (by omega) (by omega)] at hq
              rw [show p9 = p by omega, show j9 = jy by omega, ← ex, ← hy2, e]
              exact nI_nm2 (by omega)
          · rw [pk_un hq] at z; exact hp p9 j9 hp9 hj9 z
      by_cases hg : mCs x y cm (mCi (nI a) (nI j)) = 0
      · have hb0 : bt gn (2 * j + sd) = false := by
          rw [← Bool.not_eq_true]
          exact fun z => hmk.mp z hg
        rw [if_pos ((bt_and_sh (show 2 * j + sd < 32 by omega)).mpr hb0)]
        refine ih (k + 1) _ _ _ _ _ _ _ ⟨a, ha, rfl⟩ (Or.inr ⟨j, hj, rfl⟩) ?_ ?_ hpas (Or.inr hg)
        · intro i hi
          by_cases hi2 : i = k + 1
          · rw [hi2, pk_us, pk_us]
          · rw [pk_un hi2, pk_un hi2]; exact hf i (by omega)
        · intro j9 hj9 s9 hs9
          rw [bt_or, bt_sh (show 2 * j + sd < 32 by omega) (show 2 * j9 + s9 < 32 by omega)]
          have hcs : mCs (nI a) (nI j) (mCs x y cm) = upd (mCs x y cm) (mCi (nI a) (nI j)) 1 := if_neg hn1
          rw [hcs]
          by_cases hq : 2 * j + sd = 2 * j9 + s9
          · have hj8 : j9 = j := by omega
            have hs8 : s9 = sd := by omega
            rw [hj8, hs8, ep, pk_us, decide_eq_true rfl, Bool.or_true]
            exact ⟨fun _ => by decide, fun _ => rfl⟩
          · rw [decide_eq_false hq, Bool.or_false]
            obtain ⟨a9, ha9, ep9⟩ := end_pl hE hj9 s9
            have hne : mCi (if s9 = 1 then N_b N j9 else N_a N j9) (nI j9) ≠ mCi (nI a) (nI j) := by
              rw [ep9, mCi_n (by omega) (by omega), mCi_n (by omega) (by omega)]
              intro z
              have hj8 : j9 = j := by omega
              have ha8 : a9 = a := by omega
              subst hj8
              subst ha8
              rw [← ep9] at ep
              rcases hsd with u | u <;> rcases hs9 with v | v <;> subst u <;> subst v
              · exact hq rfl
              · rw [if_neg (by decide), if_pos rfl] at ep; exact hF j9 hj ep
              · rw [if_pos rfl, if_neg (by decide)] at ep; exact hF j9 hj ep.symm
              · exact hq rfl
            rw [pk_un hne]
            exact hm j9 hj9 s9 hs9
      · have hb1 : bt gn (2 * j + sd) = true := hmk.mpr hg
        rw [if_neg (fun z => by rw [(bt_and_sh (show 2 * j + sd < 32 by omega)).mp z] at hb1; exact Bool.false_ne_true hb1), mWk_3 (hpas a j ha hj hg) ⟨hn1, hg⟩]
        refine ⟨rfl, rfl, rfl, fun i hi => ?_⟩
        by_cases hi2 : i = k + 1
        · rw [hi2]
          show upd f (k + 1) (nI a) (k + 1) = upd fm (k + 1) (nI a) (k + 1)
          rw [pk_us, pk_us]
        · show upd f (k + 1) (nI a) i = upd fm (k + 1) (nI a) i
          have hi3 : i ≤ k + 1 := hi
          rw [pk_un hi2, pk_un hi2]; exact hf i (by omega)
theorem mCf_0 {f : Nat → Int32} : ∀ n i, i < n → mCf f n i = 0
  | 0, _, h => absurd h (Nat.not_lt_zero _)
  | n + 1, i, h => by
    rw [mCf]
    by_cases e : i = n
    · subst e; exact pk_us
    · rw [pk_un e]; exact mCf_0 n i (by omega)
/-- the walk's end -/
theorem wk_eq (hN : N_n N ≤ 16) (hS : S_n S ≤ 24) (hP : PBi N pb) (hB : SBi S sb) (hK : KDi S) (hD : DMi S) (hV : PVi N S) (hE : NE N) (hF : NDi N) (f : Nat → Int32) (z : TZ) {p : Nat} (hp : p < 10) : WE (jWalk S sb q N pb f (nI p)) (mWalk S q N z (nI p)) := by
  refine walk_eq hN hS hP hB hK hD hV hE hF 30 0 (nI p) (-1) 0 (upd f 0 (nI p)) (mCf z.2.2.2.2.1 160) (upd z.2.2.2.1 0 (nI p)) 0 ⟨p, hp, rfl⟩ (Or.inl rfl) ?_ ?_ ?_ (Or.inl rfl)
  · intro i hi
    rw [show i = 0 by omega, pk_us, pk_us]
  · intro j hj s hs
    obtain ⟨a, ha, ea⟩ := end_pl hE hj s
    rw [bt_0, ea, show mCs (nI p) (-1) (mCf z.2.2.2.2.1 160) = mCf z.2.2.2.2.1 160 from if_pos rfl, mCi_n (by omega) (by omega), mCf_0 160 _ (by omega)]
    exact ⟨fun z => absurd z Bool.false_ne_true, fun z => absurd rfl z⟩
  · intro p9 j hp9 hj z9
    rw [mCi_n (by omega) (by omega), mCf_0 160 _ (by omega)] at z9
    exact absurd rfl z9
theorem e_walk {w : Nat × (Nat → Int32) × Int32 × Int32} {z : TZ} {x y : Int32} (hN : N_n N ≤ 16) (hS : S_n S ≤ 24) (hP : PBi N pb) (hB : SBi S sb) (hK : KDi S) (hD : DMi S) (hV : PVi N S) (hE : NE N) (hF : NDi N) : (mXwalk N S q z x y).1 = (jXwalk S sb q N pb w x y).1 := by
  unfold mXwalk jXwalk
  by_cases h1 : 0 ≤ x ∧ x ≤ 9
  · rw [if_pos h1, if_pos h1]
    by_cases h2 : 0 ≤ y ∧ y ≤ 3
    · rw [if_pos h2, if_pos h2]
      obtain ⟨p, hp, ep⟩ := pl_of h1
      obtain ⟨w1, w2, w3, w4⟩ := wk_eq (q := q) hN hS hP hB hK hD hV hE hF w.2.1 z hp
      rw [← ep] at w1 w2 w3 w4
      have hle : (jWalk S sb q N pb w.2.1 x).1 ≤ 31 := jWalk_le
      show (if y = 0 then (mWalk S q N z x).1 else if y = 1 then (mWalk S q N z x).2.2.2.1 (mWalk S q N z x).2.1 else if y = 2 then nI (mWalk S q N z x).2.1 else (mWalk S q N z x).2.2.1) = jWt (jWalk S sb q N pb w.2.1 x) y
      unfold jWt
      rw [w2, w3, w1, show nI ((mWalk S q N z x).2.1 + 1) - 1 = nI (mWalk S q N z x).2.1 from pk_sub (a := (mWalk S q N z x).2.1 + 1) (b := 1) (by omega), rg_in (by omega) (by omega), w4 _ (Nat.le_refl _)]
    · rw [if_neg h2, if_neg h2]
  · rw [if_neg h1, if_neg h1]
theorem e_walked {w : Nat × (Nat → Int32) × Int32 × Int32} {z : TZ} {x y : Int32} (hN : N_n N ≤ 16) (hS : S_n S ≤ 24) (hP : PBi N pb) (hB : SBi S sb) (hK : KDi S) (hD : DMi S) (hV : PVi N S) (hE : NE N) (hF : NDi N) : (mXwalked N S q z x y).1 = (jXwalked S sb q N pb w x y).1 := by
  unfold mXwalked jXwalked
  by_cases h1 : 0 ≤ x ∧ x ≤ 9
  · rw [if_pos h1, if_pos h1]
    by_cases h2 : 0 ≤ y
    · rw [if_pos h2, if_pos h2]
      obtain ⟨p, hp, ep⟩ := pl_of h1
      obtain ⟨w1, w2, w3, w4⟩ := wk_eq (q := q) hN hS hP hB hK hD hV hE hF w.2.1 z hp
      rw [← ep] at w1 w2 w3 w4
      have hle : (jWalk S sb q N pb w.2.1 x).1 ≤ 31 := jWalk_le
      show (if y ≤ nI (mWalk S q N z x).2.1 then (mWalk S q N z x).2.2.2.1 y.toNatClampNeg else -1) = rg (jWalk S sb q N pb w.2.1 x).1 (jWalk S sb q N pb w.2.1 x).2.1 y
      obtain ⟨i, hi, ei⟩ := nI_of (Int32.not_lt.mpr h2)
      rw [w1, ei, nI_cl hi]
      by_cases h3 : i ≤ (mWalk S q N z x).2.1
      · rw [if_pos (by rw [nI_leI hi (by omega)]; exact h3), rg_in (by omega) (by omega), w4 _ h3]
      · rw [if_neg (by rw [nI_leI hi (by omega)]; exact h3), rg_ge (by rw [nI_leI (by omega) hi]; omega)]
    · rw [if_neg h2, if_neg h2]
  · rw [if_neg h1, if_neg h1]
end ZV
