theorem p_trail {N : TN} {t : TT} {zf : Nat → Nat} {x y : Int32} (hT : IVT N t zf) : ∃ zg : Nat → Nat, IVT N (jXtrail t x y).2 zg := by
  unfold jXtrail
  by_cases c1 : 0 ≤ x ∧ x ≤ 9
  · rw [if_pos c1]
    by_cases c2 : nI t.1 < 6
    · rw [if_pos c2]
      obtain ⟨p, hp, ep⟩ := pl_of c1
      obtain ⟨h6, hz, hz1, hP, hD, hJ, hF⟩ := hT
      rw [show (6 : Int32) = nI 6 from rfl, nI_ltI (by omega) (by omega)] at c2
      refine ⟨fun i => if i = t.1 then 1 else zf i, c2, ?_, ?_, ?_, ?_, ?_, ?_⟩
      · intro i hi
        have hi2 : i < t.1 + 1 := hi
        show upd (upd t.2.2.1 t.1 0) t.1 (nI 1) i = nI (if i = t.1 then 1 else zf i) ∧ (if i = t.1 then 1 else zf i) ≤ 6
        by_cases e : i = t.1
        · subst e; rw [pk_us, if_pos rfl]; exact ⟨rfl, by decide⟩
        · rw [pk_un e, pk_un e, if_neg e]; exact hz i (by omega)
      · intro i hi
        have hi2 : i < t.1 + 1 := hi
        show 1 ≤ if i = t.1 then 1 else zf i
        by_cases e : i = t.1
        · rw [if_pos e]; exact Nat.le_refl _
        · rw [if_neg e]; exact hz1 i (by omega)
      · intro i hi j hj
        have hi2 : i < t.1 + 1 := hi
        have hj2 : j < (if i = t.1 then 1 else zf i) := hj
        show ∃ p : Nat, p < 10 ∧ upd t.2.1 (t.1 * 6) x (6 * i + j) = nI p
        by_cases e : i = t.1
        · rw [if_pos e] at hj2
          subst e
          rw [show 6 * t.1 + j = t.1 * 6 by omega, pk_us]
          exact ⟨p, hp, ep⟩
        · rw [if_neg e] at hj2
          have := (hz i (by omega)).2
          rw [pk_un (by omega)]; exact hP i (by omega) j hj2
      · intro i hi j k hj hk
        have hi2 : i < t.1 + 1 := hi
        have hj2 : j < (if i = t.1 then 1 else zf i) := hj
        have hk2 : k < (if i = t.1 then 1 else zf i) := hk
        show upd t.2.1 (t.1 * 6) x (6 * i + j) = upd t.2.1 (t.1 * 6) x (6 * i + k) → j = k
        by_cases e : i = t.1
        · rw [if_pos e] at hj2 hk2; omega
        · rw [if_neg e] at hj2 hk2
          have := (hz i (by omega)).2
          rw [pk_un (by omega), pk_un (by omega)]; exact hD i (by omega) j k hj2 hk2
      · intro i hi k9 g1 g2
        have hi2 : i < t.1 + 1 := hi
        have g3 : k9 < (if i = t.1 then 1 else zf i) := g2
        by_cases e : i = t.1
        · rw [if_pos e] at g3; omega
        · rw [if_neg e] at g3
          have := (hz i (by omega)).2
          unfold mJk
          show ¬ mJo N (upd t.2.1 (t.1 * 6) x (6 * i + k9 - 1)) (upd t.2.1 (t.1 * 6) x (6 * i + k9)) (N_n N) = -1
          rw [pk_un (by omega), pk_un (by omega)]
          exact hJ i (by omega) k9 g1 g3
      · intro i hi
        have hi2 : i < t.1 + 1 := hi
        show upd t.2.2.2.1 t.1 (if y = 0 then 0 else 1) i = 0 ∨ upd t.2.2.2.1 t.1 (if y = 0 then 0 else 1) i = 1
        by_cases e : i = t.1
        · subst e
          rw [pk_us]
          by_cases g : y = 0
          · rw [if_pos g]; exact Or.inl rfl
          · rw [if_neg g]; exact Or.inr rfl
        · rw [pk_un e]; exact hF i (by omega)
    · rw [if_neg c2]; exact ⟨zf, hT⟩
  · rw [if_neg c1]; exact ⟨zf, hT⟩
theorem p_add {N : TN} {pb : Nat → Int32} {t : TT} {zf : Nat → Nat} {x y : Int32} (hN : IVN N pb) (hT : IVT N t zf) : ∃ zg : Nat → Nat, IVT N (jXadd pb t zf x y).2 zg := by
  unfold jXadd
  by_cases c1 : 0 ≤ x ∧ x ≤ nI t.1 - 1
  · rw [if_pos c1]
    by_cases c2 : 0 ≤ y ∧ y ≤ 9
    · rw [if_pos c2]
      by_cases c3 : jMt pb t zf x.toNatClampNeg y = true
      · rw [if_pos c3]
        by_cases c4 : nI (zf x.toNatClampNeg) < 6
        · rw [if_pos c4]
          obtain ⟨h16, hE, hND, hU, hB⟩ := hN
          obtain ⟨h6, hz, hz1, hP, hD, hJ, hF⟩ := hT
          obtain ⟨tt, htt, ex⟩ := ix_of c1 (by omega)
          subst ex
          rw [nI_cl (show tt < 2 ^ 31 by omega)] at c3 c4 ⊢
          obtain ⟨p, hp, ep⟩ := pl_of c2
          have hzt := hz tt htt
          have hz9 := hz1 tt htt
          rw [show (6 : Int32) = nI 6 from rfl, nI_ltI (by omega) (by omega)] at c4
          unfold jMt at c3
          rw [decide_eq_true_eq] at c3
          obtain ⟨m1, m2⟩ := c3
          obtain ⟨p2, hp2, ep2⟩ := hP tt htt (zf tt - 1) (by omega)
          rw [show nI (zf tt) - 1 = nI (zf tt - 1) from pk_sub (a := zf tt) (b := 1) (by omega), pa_eq h6 hz htt (by omega), ep2, ep, jo_eq2 h16 hB hU hp2 hp] at m2
          have hnot : ∀ i, i < zf tt → ¬ t.2.1 (6 * tt + i) = y := by
            rcases ix_sp h6 hz htt y with ⟨-, h4⟩ | ⟨i2, h4, h5, -⟩
            · exact h4
            · rw [h5] at m1; exact absurd m1 (nI_nm1 (by omega))
          refine ⟨fun i => if i = tt then zf tt + 1 else zf i, h6, ?_, ?_, ?_, ?_, ?_, hF⟩
          · intro i hi
            have hi2 : i < t.1 := hi
            show upd t.2.2.1 tt (nI (zf tt + 1)) i = nI (if i = tt then zf tt + 1 else zf i) ∧ (if i = tt then zf tt + 1 else zf i) ≤ 6
            by_cases e : i = tt
            · subst e; rw [pk_us, if_pos rfl]; exact ⟨rfl, c4⟩
            · rw [pk_un e, if_neg e]; exact hz i hi2
          · intro i hi
            show 1 ≤ if i = tt then zf tt + 1 else zf i
            by_cases e : i = tt
            · rw [if_pos e]; omega
            · rw [if_neg e]; exact hz1 i hi
          · intro i hi j hj
            have hi2 : i < t.1 := hi
            have hj2 : j < (if i = tt then zf tt + 1 else zf i) := hj
            show ∃ p : Nat, p < 10 ∧ upd t.2.1 (tt * 6 + zf tt) y (6 * i + j) = nI p
            by_cases e : i = tt
            · rw [if_pos e] at hj2
              subst e
              by_cases g : j = zf i
              · subst g; rw [show 6 * i + zf i = i * 6 + zf i by omega, pk_us]; exact ⟨p, hp, ep⟩
              · rw [pk_un (by omega)]; exact hP i hi2 j (by omega)
            · rw [if_neg e] at hj2
              have := (hz i hi2).2
              rw [pk_un (by omega)]; exact hP i hi2 j hj2
          · intro i hi j k hj hk
            have hi2 : i < t.1 := hi
            have hj2 : j < (if i = tt then zf tt + 1 else zf i) := hj
            have hk2 : k < (if i = tt then zf tt + 1 else zf i) := hk
            show upd t.2.1 (tt * 6 + zf tt) y (6 * i + j) = upd t.2.1 (tt * 6 + zf tt) y (6 * i + k) → j = k
            by_cases e : i = tt
            · rw [if_pos e] at hj2 hk2
              subst e
              by_cases g : j = zf i
              · by_cases f : k = zf i
                · intro _; omega
                · subst g
                  rw [show 6 * i + zf i = i * 6 + zf i by omega, pk_us, pk_un (by omega)]
                  exact fun z => absurd z.symm (hnot k (by omega))
              · rw [pk_un (show 6 * i + j ≠ i * 6 + zf i by omega)]
                by_cases f : k = zf i
                · subst f
                  rw [show 6 * i + zf i = i * 6 + zf i by omega, pk_us]
                  exact fun z => absurd z (hnot j (by omega))
                · rw [pk_un (by omega)]; exact hD i hi2 j k (by omega) (by omega)
            · rw [if_neg e] at hj2 hk2
              have := (hz i hi2).2
              rw [pk_un (by omega), pk_un (by omega)]; exact hD i hi2 j k hj2 hk2
          · intro i hi k9 g1 g2
            have hi2 : i < t.1 := hi
            have g3 : k9 < (if i = tt then zf tt + 1 else zf i) := g2
            unfold mJk
            show ¬ mJo N (upd t.2.1 (tt * 6 + zf tt) y (6 * i + k9 - 1)) (upd t.2.1 (tt * 6 + zf tt) y (6 * i + k9)) (N_n N) = -1
            by_cases e : i = tt
            · rw [if_pos e] at g3
              subst e
              rw [pk_un (show 6 * i + k9 - 1 ≠ i * 6 + zf i by omega)]
              by_cases g : k9 = zf i
              · subst g
                rw [show 6 * i + zf i - 1 = 6 * i + (zf i - 1) by omega, show 6 * i + zf i = i * 6 + zf i by omega, pk_us, ep2, ep]
                exact m2
              · rw [pk_un (by omega)]; exact hJ i hi2 k9 g1 (by omega)
            · rw [if_neg e] at g3
              have := (hz i hi2).2
              rw [pk_un (by omega), pk_un (by omega)]; exact hJ i hi2 k9 g1 g3
        · rw [if_neg c4]; exact ⟨zf, hT⟩
      · rw [if_neg c3]; exact ⟨zf, hT⟩
    · rw [if_neg c2]; exact ⟨zf, hT⟩
  · rw [if_neg c1]; exact ⟨zf, hT⟩
-- the start
theorem iv0_N : IVN N0 f0 := ⟨Nat.zero_le _, fun i hi => absurd hi (Nat.not_lt_zero _), fun i hi => absurd hi (Nat.not_lt_zero _), fun i _ hi => absurd hi (Nat.not_lt_zero _), fun _ _ => rfl⟩
theorem iv0_S : IVS N0 S0 f0 q0' := ⟨Nat.zero_le _, fun i hi => absurd hi (Nat.not_lt_zero _), fun i hi => absurd hi (Nat.not_lt_zero _), fun i hi => absurd hi (Nat.not_lt_zero _), fun i hi => absurd hi (Nat.not_lt_zero _), fun i hi => absurd hi (Nat.not_lt_zero _), fun i j _ hj => absurd hj (Nat.not_lt_zero _), fun i hi => absurd hi (Nat.not_lt_zero _), fun i hi => absurd hi (Nat.not_lt_zero _)⟩
theorem iv0_Q : IVQ q0' := ⟨Or.inl rfl, 0, Nat.zero_le _, rfl⟩
theorem iv0_R : IVR N0 r0' := ⟨Nat.zero_le _, fun i hi => absurd hi (Nat.not_lt_zero _), fun i hi => absurd hi (Nat.not_lt_zero _)⟩
theorem iv0_T : IVT N0 t0' (fun _ => 1) := ⟨Nat.zero_le _, fun i hi => absurd hi (Nat.not_lt_zero _), fun i hi => absurd hi (Nat.not_lt_zero _), fun i hi => absurd hi (Nat.not_lt_zero _), fun i hi => absurd hi (Nat.not_lt_zero _), fun i hi => absurd hi (Nat.not_lt_zero _), fun i hi => absurd hi (Nat.not_lt_zero _)⟩
theorem iv0_F : IVF b0' := ⟨Nat.zero_le _, fun i hi => absurd hi (Nat.not_lt_zero _)⟩
theorem iv0_K : IVK k0' := ⟨Nat.zero_le _, fun i hi => absurd hi (Nat.not_lt_zero _)⟩
