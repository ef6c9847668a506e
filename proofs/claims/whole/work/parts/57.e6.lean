theorem e_path {N : TN} {pb : Nat → Int32} {x y v : Int32} (hN : N_n N ≤ 16) (hB : PBi N pb) (hU : UQi N) : mXpath N x y v = ((jXpath N pb x y v).1, (jXpath N pb x y v).2.1) := by
  unfold mXpath jXpath
  by_cases h1 : 0 ≤ x ∧ x ≤ 9
  · rw [if_pos h1, if_pos h1]
    by_cases h2 : 0 ≤ y ∧ y ≤ 9
    · rw [if_pos h2, if_pos h2]
      by_cases h3 : x = y
      · rw [if_pos h3, if_pos h3]
      · rw [if_neg h3, if_neg h3]
        by_cases h4 : 1 ≤ v ∧ v ≤ 9
        · rw [if_pos h4, if_pos h4]
          obtain ⟨p, hp, ep⟩ := pl_of h1
          obtain ⟨q, hq, eq⟩ := pl_of h2
          have hj : jJo pb x y = mJo N x y (N_n N) := by
            rw [ep, eq]; rw [ep, eq] at h3; exact jo_eq hN hB hU hp hq h3
          rw [hj]
          by_cases h5 : mJo N x y (N_n N) = -1
          · rw [if_pos h5, if_pos h5, fl_eq (M := 16) (m9 := 16) rfl hN (by decide)]
            by_cases h6 : nI (N_n N) < 16
            · rw [if_pos h6, if_pos h6]; rfl
            · rw [if_neg h6, if_neg h6]
          · rw [if_neg h5, if_neg h5]
        · rw [if_neg h4, if_neg h4]
    · rw [if_neg h2, if_neg h2]
  · rw [if_neg h1, if_neg h1]
theorem e_route {N : TN} {pb : Nat → Int32} {ro : TR} {x : Int32} (hN : N_n N ≤ 16) (hB : PBi N pb) (hU : UQi N) (hr10 : ro.1 ≤ 10) (hr : ∀ i, i < ro.1 → ∃ p : Nat, p < 10 ∧ ro.2.1 i = nI p) (hh : ∀ i, i < ro.1 → hasB ro.2.1 (ro.2.1 i) ro.1 = true) : mXroute N ro x = jXroute pb ro x := by
  unfold mXroute jXroute
  by_cases h1 : 0 ≤ x ∧ x ≤ 9
  · rw [if_pos h1, if_pos h1]
    obtain ⟨p, hp, ep⟩ := pl_of h1
    by_cases h0 : ro.1 = 0
    · have hm : jMg pb ro x = true := decide_eq_true (Or.inl (by rw [h0]; rfl))
      have hb : ¬ hasB ro.2.1 x ro.1 = true := by rw [h0]; exact Bool.false_ne_true
      rw [if_pos hm, if_neg hb, if_neg (fun z => absurd z.1 (by omega)), fl_eq (M := 10) (m9 := 10) rfl hr10 (by decide)]
    · by_cases h2 : hasB ro.2.1 x ro.1 = true
      · have hm : ¬ jMg pb ro x = true := by
          unfold jMg
          rw [decide_eq_true_eq]
          rintro (z | z)
          · rw [show (0 : Int32) = nI 0 from rfl, nI_eq (by omega) (by decide)] at z; exact h0 z
          · exact z.1 h2
        rw [if_pos h2, if_neg hm]
      · obtain ⟨u, hu, eu⟩ := hr (ro.1 - 1) (by omega)
        have hne : ¬ nI u = nI p := by
          intro z
          have h9 := hh (ro.1 - 1) (by omega)
          rw [eu, z, ← ep] at h9
          exact h2 h9
        have hg : rg ro.1 ro.2.1 (nI ro.1 - 1) = nI u := by
          rw [show nI ro.1 - 1 = nI (ro.1 - 1) from pk_sub (a := ro.1) (b := 1) (by omega), rg_in (by omega) (by omega), eu]
        have hj : jJo pb (rg ro.1 ro.2.1 (nI ro.1 - 1)) x = mJo N (ro.2.1 (ro.1 - 1)) x (N_n N) := by
          rw [hg, eu, ep]; exact jo_eq hN hB hU hu hp hne
        rw [if_neg h2]
        by_cases h3 : mJo N (ro.2.1 (ro.1 - 1)) x (N_n N) = -1
        · have hm : ¬ jMg pb ro x = true := by
            unfold jMg
            rw [decide_eq_true_eq]
            rintro (z | z)
            · rw [show (0 : Int32) = nI 0 from rfl, nI_eq (by omega) (by decide)] at z; exact h0 z
            · exact z.2 (by rw [hj]; exact h3)
          rw [if_pos ⟨by omega, h3⟩, if_neg hm]
        · have hm : jMg pb ro x = true := decide_eq_true (Or.inr ⟨h2, by rw [hj]; exact h3⟩)
          rw [if_neg (fun z => h3 z.2), if_pos hm, fl_eq (M := 10) (m9 := 10) rfl hr10 (by decide)]
  · rw [if_neg h1, if_neg h1]