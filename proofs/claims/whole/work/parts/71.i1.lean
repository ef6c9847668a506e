/-! what holds of the state from call to call, and that every call keeps it -/
def SUi (S : TS) : Prop := ∀ i, i < S_n S → S_u S i = 0 ∨ S_u S i = 1
def DQi (S : TS) (q : TQ) : Prop := ∀ i, i < S_n S → S_d S i ≤ q.1
abbrev IVN (N : TN) (pb : Nat → Int32) : Prop := N_n N ≤ 16 ∧ NE N ∧ NDi N ∧ UQi N ∧ PBi N pb
abbrev IVS (N : TN) (S : TS) (sb : Nat → Int32) (q : TQ) : Prop := S_n S ≤ 24 ∧ SPi S ∧ LF S ∧ KDi S ∧ PVi N S ∧ SUi S ∧ DMi S ∧ SBi S sb ∧ DQi S q
abbrev IVQ (q : TQ) : Prop := WT3 q ∧ ∃ d : Nat, d ≤ 400 ∧ q.1 = nI d
abbrev IVR (N : TN) (ro : TR) : Prop := ro.1 ≤ 10 ∧ RPi ro ∧ RJi N ro
abbrev IVT (N : TN) (t : TT) (zf : Nat → Nat) : Prop := t.1 ≤ 6 ∧ TZi t zf ∧ (∀ i, i < t.1 → 1 ≤ zf i) ∧ TPi t zf ∧ TDi t zf ∧ TJi N t zf ∧ TFi t
abbrev IVF (fo : TF) : Prop := fo.1 ≤ 5 ∧ FLi fo
abbrev IVK (k : TC) : Prop := k.2.1 ≤ 8 ∧ CDi k
theorem iv_sv {N : TN} {S : TS} (h : PVi N S) : SV N S := fun i hi h0 => h i hi (Or.inl h0)
-- a new path
section ZJ
variable {N : TN} {x y v : Int32}
theorem at_old {i : Nat} (hN : N_n N < 16) (hi : i < N_n N) (p : Int32) : mAt (jJoin N x y v) (nI i) p = mAt N (nI i) p := by
  unfold mAt jJoin
  rw [Bool.eq_iff_iff, decide_eq_true_eq, decide_eq_true_eq, nI_cl (show i < 2 ^ 31 by omega)]
  show ((0 ≤ nI i ∧ nI i ≤ nI (N_n N + 1) - 1) ∧ (upd (N_a N) (N_n N) x i = p ∨ upd (N_b N) (N_n N) y i = p)) ↔ _
  rw [pk_un (by omega), pk_un (by omega), show nI (N_n N + 1) - 1 = nI (N_n N) from pk_sub (a := N_n N + 1) (b := 1) (by omega), show nI (N_n N) - 1 = nI (N_n N - 1) from pk_sub (a := N_n N) (b := 1) (by omega), nI_leI (by omega) (by omega), nI_leI (by omega) (by omega)]
  exact ⟨fun z => ⟨⟨z.1.1, by omega⟩, z.2⟩, fun z => ⟨⟨z.1.1, by omega⟩, z.2⟩⟩
theorem at_new (hN : N_n N < 16) (p : Int32) : mAt (jJoin N x y v) (nI (N_n N)) p = true ↔ (x = p ∨ y = p) := by
  unfold mAt jJoin
  rw [decide_eq_true_eq, nI_cl (show N_n N < 2 ^ 31 by omega)]
  show ((0 ≤ nI (N_n N) ∧ nI (N_n N) ≤ nI (N_n N + 1) - 1) ∧ (upd (N_a N) (N_n N) x (N_n N) = p ∨ upd (N_b N) (N_n N) y (N_n N) = p)) ↔ _
  rw [pk_us, pk_us, show nI (N_n N + 1) - 1 = nI (N_n N) from pk_sub (a := N_n N + 1) (b := 1) (by omega)]
  exact ⟨fun z => z.2, fun z => ⟨⟨nI_pos' (by omega), Int32.le_refl _⟩, z⟩⟩
theorem pa_old (hN : N_n N < 16) (p : Int32) : ∀ n, n ≤ N_n N → mPA (jJoin N x y v) p n = mPA N p n
  | 0, _ => rfl
  | n + 1, h => by rw [mPA, mPA, pa_old hN p n (by omega), at_old hN (by omega)]
theorem jo_old (hN : N_n N < 16) (a b : Int32) : ∀ n, n ≤ N_n N → mJo (jJoin N x y v) a b n = mJo N a b n
  | 0, _ => rfl
  | n + 1, h => by rw [mJo, mJo, jo_old hN a b n (by omega), at_old hN (by omega), at_old hN (by omega)]
theorem jo_keep (hN : N_n N < 16) {a b : Int32} (h : ¬ mJo N a b (N_n N) = -1) : ¬ mJo (jJoin N x y v) a b (N_n N + 1) = -1 := by
  rw [mJo]
  split
  · exact nI_nm1 (by omega)
  · rw [jo_old hN a b _ (Nat.le_refl _)]; exact h
theorem iv_join {pb : Nat → Int32} (hI : IVN N pb) (hN : N_n N < 16) (hx : 0 ≤ x ∧ x ≤ 9) (hy : 0 ≤ y ∧ y ≤ 9) (hxy : ¬ x = y) (hj : jJo pb x y = -1) : IVN (jJoin N x y v) (jJpb N pb x y) := by
  obtain ⟨h16, hE, hD, hU, hB⟩ := hI
  obtain ⟨px, hpx, ex⟩ := pl_of hx
  obtain ⟨py, hpy, ey⟩ := pl_of hy
  subst ex
  subst ey
  have hne : ∀ i, i < N_n N → ¬ (mAt N (nI i) (nI px) = true ∧ mAt N (nI i) (nI py) = true) := by
    rw [jo_eq h16 hB hU hpx hpy hxy] at hj
    rcases mJo_sp (N := N) (x := nI px) (y := nI py) (N_n N) with ⟨-, h2⟩ | ⟨i, h1, h2, -⟩
    · exact fun i hi z => h2 i hi ⟨z.1, z.2, hxy⟩
    · rw [h2] at hj; exact absurd hj (nI_nm1 (by omega))
  refine ⟨show N_n N + 1 ≤ 16 by omega, ?_, ?_, ?_, ?_⟩
  · intro i hi
    have hi2 : i < N_n N + 1 := hi
    by_cases e : i = N_n N
    · subst e
      exact ⟨⟨px, hpx, pk_us⟩, ⟨py, hpy, pk_us⟩⟩
    · obtain ⟨⟨a, ha, ea⟩, ⟨b, hb, eb⟩⟩ := hE i (by omega)
      exact ⟨⟨a, ha, (pk_un e).trans ea⟩, ⟨b, hb, (pk_un e).trans eb⟩⟩
  · intro i hi
    have hi2 : i < N_n N + 1 := hi
    show ¬ upd (N_a N) (N_n N) (nI px) i = upd (N_b N) (N_n N) (nI py) i
    by_cases e : i = N_n N
    · subst e; rw [pk_us, pk_us]; exact hxy
    · rw [pk_un e, pk_un e]; exact hD i (by omega)
  · -- one path of a pair
    have key : ∀ j, j < N_n N → ∀ a b, ¬ a = b → mAt (jJoin N (nI px) (nI py) v) (nI (N_n N)) a = true → mAt (jJoin N (nI px) (nI py) v) (nI (N_n N)) b = true → mAt N (nI j) a = true → mAt N (nI j) b = true → False := by
      intro j hj9 a b hab h1 h2 h3 h4
      rw [at_new hN] at h1 h2
      rcases h1 with e | e <;> rcases h2 with g | g
      · exact hab (e.symm.trans g)
      · subst e; subst g; exact hne j hj9 ⟨h3, h4⟩
      · subst e; subst g; exact hne j hj9 ⟨h4, h3⟩
      · exact hab (e.symm.trans g)
    intro i j hi hj9 a b hab h1 h2 h3 h4
    have hi2 : i < N_n N + 1 := hi
    have hj2 : j < N_n N + 1 := hj9
    by_cases e : i = N_n N
    · by_cases g : j = N_n N
      · rw [e, g]
      · subst e
        rw [at_old hN (show j < N_n N by omega)] at h3 h4
        exact (key j (by omega) a b hab h1 h2 h3 h4).elim
    · rw [at_old hN (show i < N_n N by omega)] at h1 h2
      by_cases g : j = N_n N
      · subst g
        exact (key i (by omega) a b hab h3 h4 h1 h2).elim
      · rw [at_old hN (show j < N_n N by omega)] at h3 h4
        exact hU i j (by omega) (by omega) a b hab h1 h2 h3 h4
  · intro p hp
    show jJpb N pb (nI px) (nI py) p = mPA (jJoin N (nI px) (nI py) v) (nI p) (N_n N + 1)
    rw [mPA, pa_old hN (nI p) _ (Nat.le_refl _), ← hB p hp]
    unfold jJpb
    have hzx : zPb pb (nI px) = pb px := by unfold zPb; rw [if_pos (pl_in hpx), rg_in hpx (by decide)]
    have hne2 : ¬ px = py := fun z => hxy (by rw [z])
    rw [hzx, zbt_n hN, rp_in hpx (by decide), rp_in hpy (by decide)]
    have hzy : zPb (upd pb px (pb px ||| (1 : Int32) <<< (nI (N_n N) &&& 31))) (nI py) = pb py := by
      unfold zPb; rw [if_pos (pl_in hpy), rg_in hpy (by decide), pk_un (fun z => hne2 z.symm)]
    rw [hzy]
    by_cases e : p = py
    · subst e
      rw [pk_us, if_pos ((at_new hN _).mpr (Or.inr rfl))]
    · rw [pk_un e]
      by_cases g : p = px
      · subst g
        rw [pk_us, if_pos ((at_new hN _).mpr (Or.inl rfl))]
      · rw [pk_un g, if_neg]
        · exact bt_ext (fun i _ => by rw [bt_or, bt_0, Bool.or_false])
        · intro z
          rcases (at_new hN _).mp z with w | w
          · rw [nI_eq (by omega) (by omega)] at w; exact g w.symm
          · rw [nI_eq (by omega) (by omega)] at w; exact e w.symm
theorem ivs_join {S : TS} {sb : Nat → Int32} {q : TQ} (h : IVS N S sb q) : IVS (jJoin N x y v) S sb q := by
  obtain ⟨h1, h2, h3, h4, h5, h6⟩ := h
  refine ⟨h1, h2, h3, h4, fun i hi hk => ?_, h6⟩
  obtain ⟨j, hj, ej⟩ := h5 i hi hk
  exact ⟨j, show j < N_n N + 1 by omega, ej⟩
theorem ivr_join {ro : TR} (hN : N_n N < 16) (h : IVR N ro) : IVR (jJoin N x y v) ro := ⟨h.1, h.2.1, fun i hi => jo_keep hN (h.2.2 i hi)⟩
theorem ivt_join {t : TT} {zf : Nat → Nat} (hN : N_n N < 16) (h : IVT N t zf) : IVT (jJoin N x y v) t zf := by
  obtain ⟨h1, h2, h3, h4, h5, h6, h7⟩ := h
  exact ⟨h1, h2, h3, h4, h5, fun tt htt k9 g1 g2 => jo_keep hN (h6 tt htt k9 g1 g2), h7⟩
end ZJ
theorem p_path {N : TN} {pb : Nat → Int32} {S : TS} {sb : Nat → Int32} {q : TQ} {ro : TR} {t : TT} {zf : Nat → Nat} {x y v : Int32} (hN : IVN N pb) (hS : IVS N S sb q) (hR : IVR N ro) (hT : IVT N t zf) : IVN (jXpath N pb x y v).2.1 (jXpath N pb x y v).2.2 ∧ IVS (jXpath N pb x y v).2.1 S sb q ∧ IVR (jXpath N pb x y v).2.1 ro ∧ IVT (jXpath N pb x y v).2.1 t zf := by
  unfold jXpath
  by_cases h1 : 0 ≤ x ∧ x ≤ 9
  · rw [if_pos h1]
    by_cases h2 : 0 ≤ y ∧ y ≤ 9
    · rw [if_pos h2]
      by_cases h3 : x = y
      · rw [if_pos h3]; exact ⟨hN, hS, hR, hT⟩
      · rw [if_neg h3]
        by_cases h4 : 1 ≤ v ∧ v ≤ 9
        · rw [if_pos h4]
          by_cases h5 : jJo pb x y = -1
          · rw [if_pos h5]
            by_cases h6 : nI (N_n N) < 16
            · rw [if_pos h6]
              have h16 := hN.1
              have h7 : N_n N < 16 := by rw [show (16 : Int32) = nI 16 from rfl, nI_ltI (by omega) (by omega)] at h6; exact h6
              exact ⟨iv_join hN h7 h1 h2 h3 h5, ivs_join hS, ivr_join h7 hR, ivt_join h7 hT⟩
            · rw [if_neg h6]; exact ⟨hN, hS, hR, hT⟩
          · rw [if_neg h5]; exact ⟨hN, hS, hR, hT⟩
        · rw [if_neg h4]; exact ⟨hN, hS, hR, hT⟩
    · rw [if_neg h2]; exact ⟨hN, hS, hR, hT⟩
  · rw [if_neg h1]; exact ⟨hN, hS, hR, hT⟩
