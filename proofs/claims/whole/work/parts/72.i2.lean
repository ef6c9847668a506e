theorem ivs_q {N : TN} {S : TS} {sb : Nat → Int32} {q q2 : TQ} (h : IVS N S sb q) (e : q2.1 = q.1) : IVS N S sb q2 := by
  obtain ⟨h1, h2, h3, h4, h5, h6, h7, h8, h9⟩ := h
  exact ⟨h1, h2, h3, h4, h5, h6, h7, h8, fun i hi => by rw [e]; exact h9 i hi⟩
theorem wt_of {x : Int32} (h : 0 ≤ x ∧ x ≤ 2) : x = 0 ∨ x = 1 ∨ x = 2 := by
  obtain ⟨j, hj, ej⟩ := nI_of2 (M := 2) (n := 2) (x := x) (by decide) (fun h9 => absurd h9 (Int32.not_lt.mpr h.1)) h.2
  rcases (show j = 0 ∨ j = 1 ∨ j = 2 by omega) with rfl | rfl | rfl
  · exact Or.inl ej
  · exact Or.inr (Or.inl ej)
  · exact Or.inr (Or.inr ej)
theorem p_weather {N : TN} {S : TS} {sb : Nat → Int32} {q : TQ} {x : Int32} (hS : IVS N S sb q) (hQ : IVQ q) : IVS N S sb (jXweather q x).2 ∧ IVQ (jXweather q x).2 := by
  unfold jXweather
  by_cases h : 0 ≤ x ∧ x ≤ 2
  · rw [if_pos h]
    exact ⟨ivs_q hS rfl, wt_of h, hQ.2⟩
  · rw [if_neg h]; exact ⟨hS, hQ⟩
theorem p_days {N : TN} {S : TS} {sb : Nat → Int32} {q : TQ} {x : Int32} (hS : IVS N S sb q) (hQ : IVQ q) : IVS N (jXdays S q x).2.1 sb (jXdays S q x).2.2 ∧ IVQ (jXdays S q x).2.2 := by
  unfold jXdays
  by_cases h : 1 ≤ x ∧ x ≤ 30
  · rw [if_pos h]
    by_cases h2 : 400 < q.1 + x
    · rw [if_pos h2]; exact ⟨hS, hQ⟩
    · rw [if_neg h2]
      obtain ⟨dx, hdx, edx⟩ := nI_of2 (M := 30) (n := 30) (x := x) (by decide) (fun h9 => absurd (Int32.lt_of_le_of_lt h.1 h9) (by decide)) h.2
      obtain ⟨d, hd, ed⟩ := hQ.2
      subst edx
      rw [ed, nI_add, show (400 : Int32) = nI 400 from rfl, nI_ltI (by omega) (by omega)] at h2
      obtain ⟨h1, h3, h4, h5, h6, h7, h8, h9, h10⟩ := hS
      refine ⟨⟨h1, h3, ?_, h5, h6, h7, h8, h9, ?_⟩, hQ.1, ⟨d + dx, by omega, ?_⟩⟩
      · intro i hi
        obtain ⟨e1, e2⟩ := lv_eq hdx hQ.1 h4 (S_n S) (Nat.le_refl _)
        show ∃ v : Nat, v < 2 ^ 20 ∧ jLv S q (nI dx) (S_n S) i = nI v
        rw [← e1]; exact e2 i hi
      · intro i hi
        show S_d S i ≤ q.1 + nI dx
        refine Int32.le_trans (h10 i hi) ?_
        rw [ed, nI_add, nI_leI (by omega) (by omega)]; omega
      · show q.1 + nI dx = nI (d + dx)
        rw [ed, nI_add]
  · rw [if_neg h]; exact ⟨hS, hQ⟩
theorem p_sign {N : TN} {pb : Nat → Int32} {S : TS} {sb : Nat → Int32} {q : TQ} {y1 y2 y3 y4 y5 y6 : Int32} (hN : IVN N pb) (hS : IVS N S sb q) : IVS N (jXsign S sb q pb y1 y2 y3 y4 y5 y6).2.1 (jXsign S sb q pb y1 y2 y3 y4 y5 y6).2.2 q := by
  unfold jXsign
  by_cases c1 : 0 ≤ y1 ∧ y1 ≤ 9
  · rw [if_pos c1]
    by_cases c2 : (y2 = 0 ∨ y2 = 1) ∧ ¬ jTo pb y3 y1 = true
    · rw [if_pos c2]; exact hS
    · rw [if_neg c2]
      by_cases c3 : jSv y2 y3 = true
      · rw [if_pos c3]
        by_cases c4 : 1 ≤ y4 ∧ y4 ≤ 60
        · rw [if_pos c4]
          by_cases c5 : (y5 &&& (zPb pb y1 ^^^ (-1))) = 0
          · rw [if_pos c5]
            by_cases c6 : nI (S_n S) < 24
            · rw [if_pos c6]
              obtain ⟨h16, hE, hND, hU, hB⟩ := hN
              obtain ⟨h1, h2, h3, h4, h5, h6, h7, h8, h9⟩ := hS
              have c7 : S_n S < 24 := by rw [show (24 : Int32) = nI 24 from rfl, nI_ltI (by omega) (by omega)] at c6; exact c6
              obtain ⟨p, hp, ep⟩ := pl_of c1
              obtain ⟨lf, hlf, elf⟩ := nI_of2 (M := 60) (n := 60) (x := y4) (by decide) (fun z => absurd (Int32.lt_of_le_of_lt c4.1 z) (by decide)) c4.2
              have hb16 : ∀ j, 16 ≤ j → j < 32 → bt y5 j = false := by
                intro j j1 j2
                have g := congrArg (fun w => bt w j) c5
                rw [ep, zPb_pl hB hp] at g
                simp only [bt_and, bt_not j2, bt_0] at g
                rw [bt_PA _ h16 j j2, decide_eq_false (fun w => absurd w.1 (by omega)), Bool.not_false, Bool.and_true] at g
                exact g
              refine ⟨show S_n S + 1 ≤ 24 by omega, ?_, ?_, ?_, ?_, ?_, ?_, ?_, ?_⟩
              · intro i hi
                have hi2 : i < S_n S + 1 := hi
                show ∃ p : Nat, p < 10 ∧ upd (S_p S) (S_n S) y1 i = nI p
                by_cases e : i = S_n S
                · subst e; exact ⟨p, hp, by rw [pk_us, ep]⟩
                · rw [pk_un e]; exact h2 i (by omega)
              · intro i hi
                have hi2 : i < S_n S + 1 := hi
                show ∃ v : Nat, v < 2 ^ 20 ∧ upd (S_f S) (S_n S) y4 i = nI v
                by_cases e : i = S_n S
                · subst e; exact ⟨lf, by omega, by rw [pk_us, elf]⟩
                · rw [pk_un e]; exact h3 i (by omega)
              · intro i hi
                have hi2 : i < S_n S + 1 := hi
                show upd (S_k S) (S_n S) y2 i = 0 ∨ upd (S_k S) (S_n S) y2 i = 1 ∨ upd (S_k S) (S_n S) y2 i = 2 ∨ upd (S_k S) (S_n S) y2 i = 3
                by_cases e : i = S_n S
                · subst e; rw [pk_us]; exact k03 (jSv_03 c3)
                · rw [pk_un e]; exact h4 i (by omega)
              · intro i hi hk
                have hi2 : i < S_n S + 1 := hi
                have hk2 : upd (S_k S) (S_n S) y2 i = 0 ∨ upd (S_k S) (S_n S) y2 i = 1 := hk
                show ∃ j : Nat, j < N_n N ∧ upd (S_v S) (S_n S) y3 i = nI j
                by_cases e : i = S_n S
                · subst e
                  rw [pk_us] at hk2
                  rw [pk_us]
                  have ht : jTo pb y3 y1 = true := Classical.byContradiction fun z => c2 ⟨hk2, z⟩
                  rw [ep, to_eq h16 hB hp] at ht
                  exact mAt_bnd h16 ht
                · rw [pk_un e] at hk2
                  rw [pk_un e]; exact h5 i (by omega) hk2
              · intro i hi
                have hi2 : i < S_n S + 1 := hi
                show upd (S_u S) (S_n S) 0 i = 0 ∨ upd (S_u S) (S_n S) 0 i = 1
                by_cases e : i = S_n S
                · subst e; exact Or.inl pk_us
                · rw [pk_un e]; exact h6 i (by omega)
              · intro i j hij hj
                have hj2 : j < S_n S + 1 := hj
                show upd (S_d S) (S_n S) q.1 i ≤ upd (S_d S) (S_n S) q.1 j
                by_cases e : j = S_n S
                · subst e
                  rw [pk_us]
                  by_cases g : i = S_n S
                  · subst g; rw [pk_us]; exact Int32.le_refl _
                  · rw [pk_un g]; exact h9 i (by omega)
                · rw [pk_un e, pk_un (show i ≠ S_n S by omega)]; exact h7 i j hij (by omega)
              · intro i hi
                have hi2 : i < S_n S + 1 := hi
                show upd sb (S_n S) (if y6 = 0 then y5 else y5 ||| 65536) i = (if upd (S_t S) (S_n S) y6 i = 0 then upd (S_y S) (S_n S) y5 i else upd (S_y S) (S_n S) y5 i ||| 65536) ∧ ∀ j, 16 ≤ j → j < 32 → bt (upd (S_y S) (S_n S) y5 i) j = false
                by_cases e : i = S_n S
                · subst e; rw [pk_us, pk_us, pk_us]; exact ⟨rfl, hb16⟩
                · rw [pk_un e, pk_un e, pk_un e]; exact h8 i (by omega)
              · intro i hi
                have hi2 : i < S_n S + 1 := hi
                show upd (S_d S) (S_n S) q.1 i ≤ q.1
                by_cases e : i = S_n S
                · subst e; rw [pk_us]; exact Int32.le_refl _
                · rw [pk_un e]; exact h9 i (by omega)
            · rw [if_neg c6]; exact hS
          · rw [if_neg c5]; exact hS
        · rw [if_neg c4]; exact hS
      · rw [if_neg c3]; exact hS
  · rw [if_neg c1]; exact hS
theorem p_turn {N : TN} {pb : Nat → Int32} {S : TS} {sb : Nat → Int32} {q : TQ} {x y : Int32} (hN : IVN N pb) (hS : IVS N S sb q) : IVS N (jXturn S pb x y).2 sb q := by
  unfold jXturn
  have h24 := hS.1
  by_cases c1 : 0 ≤ x ∧ x ≤ nI (S_n S) - 1
  · rw [if_pos c1]
    obtain ⟨k, hk, ek⟩ := ix_of c1 (by omega)
    subst ek
    simp only [rg_in hk (show S_n S < 2 ^ 31 by omega), nI_cl (show k < 2 ^ 31 by omega)]
    by_cases c2 : jTo pb y (S_p S k) = true
    · rw [if_pos c2]
      by_cases c3 : S_k S k = 0
      · rw [if_pos c3]
        by_cases c4 : S_f S k ≤ 0
        · rw [if_pos c4]; exact hS
        · rw [if_neg c4]
          by_cases c5 : S_v S k = y
          · rw [if_pos c5]; exact hS
          · rw [if_neg c5]
            obtain ⟨h16, hE, hND, hU, hB⟩ := hN
            obtain ⟨h1, h2, h3, h4, h5, h6, h7, h8, h9⟩ := hS
            refine ⟨h1, h2, h3, h4, ?_, ?_, h7, h8, h9⟩
            · intro i hi hk2
              show ∃ j : Nat, j < N_n N ∧ upd (S_v S) k y i = nI j
              by_cases e : i = k
              · subst e
                rw [pk_us]
                obtain ⟨p, hp, ep⟩ := h2 i hi
                rw [ep, to_eq h16 hB hp] at c2
                exact mAt_bnd h16 c2
              · rw [pk_un e]; exact h5 i hi hk2
            · intro i hi
              show upd (S_u S) k 1 i = 0 ∨ upd (S_u S) k 1 i = 1
              by_cases e : i = k
              · subst e; exact Or.inr pk_us
              · rw [pk_un e]; exact h6 i hi
      · rw [if_neg c3]; exact hS
    · rw [if_neg c2]; exact hS
  · rw [if_neg c1]; exact hS
theorem p_set {N : TN} {S : TS} {sb : Nat → Int32} {q : TQ} {ro : TR} {t : TT} {zf : Nat → Nat} {x y : Int32} (hS : IVS N S sb q) (hQ : IVQ q) (hR : IVR N ro) (hT : IVT N t zf) : IVS N S sb (jXset q ro t x y).2.1 ∧ IVQ (jXset q ro t x y).2.1 ∧ IVR N (jXset q ro t x y).2.2.1 ∧ IVT N (jXset q ro t x y).2.2.2 zf := by
  unfold jXset
  by_cases c0 : x = 0
  · rw [if_pos c0]
    by_cases d : 0 ≤ y ∧ y ≤ 9
    · rw [if_pos d]; exact ⟨ivs_q hS rfl, hQ, hR, hT⟩
    · rw [if_neg d]; exact ⟨hS, hQ, hR, hT⟩
  · rw [if_neg c0]
    by_cases c1 : x = 1
    · rw [if_pos c1]
      by_cases d : 0 ≤ y ∧ y ≤ 9
      · rw [if_pos d]; exact ⟨hS, hQ, hR, hT⟩
      · rw [if_neg d]; exact ⟨hS, hQ, hR, hT⟩
    · rw [if_neg c1]
      by_cases c2 : x = 2
      · rw [if_pos c2]
        by_cases d : 1 ≤ y ∧ y ≤ 40
        · rw [if_pos d]; exact ⟨hS, hQ, hR, hT⟩
        · rw [if_neg d]; exact ⟨hS, hQ, hR, hT⟩
      · rw [if_neg c2]; exact ⟨hS, hQ, hR, hT⟩
theorem p_note {o : TO} {x : Int32} (h : o.1 ≤ 8) : (jXnote o x).2.1 ≤ 8 := by
  unfold jXnote
  by_cases c : -1 ≤ x ∧ x ≤ 15
  · rw [if_pos c]
    by_cases d : nI o.1 < 8
    · rw [if_pos d]
      rw [show (8 : Int32) = nI 8 from rfl, nI_ltI (by omega) (by omega)] at d
      exact d
    · rw [if_neg d]; exact h
  · rw [if_neg c]; exact h
theorem p_route {N : TN} {pb : Nat → Int32} {ro : TR} {x : Int32} (hN : IVN N pb) (hR : IVR N ro) : IVR N (jXroute pb ro x).2 := by
  unfold jXroute
  by_cases c1 : 0 ≤ x ∧ x ≤ 9
  · rw [if_pos c1]
    by_cases c2 : jMg pb ro x = true
    · rw [if_pos c2]
      by_cases c3 : nI ro.1 < 10
      · rw [if_pos c3]
        obtain ⟨h16, hE, hND, hU, hB⟩ := hN
        obtain ⟨h1, h2, h3⟩ := hR
        obtain ⟨p, hp, ep⟩ := pl_of c1
        rw [show (10 : Int32) = nI 10 from rfl, nI_ltI (by omega) (by omega)] at c3
        refine ⟨c3, ?_, ?_⟩
        · intro i hi
          have hi2 : i < ro.1 + 1 := hi
          show ∃ p : Nat, p < 10 ∧ upd ro.2.1 ro.1 x i = nI p
          by_cases e : i = ro.1
          · subst e; exact ⟨p, hp, by rw [pk_us, ep]⟩
          · rw [pk_un e]; exact h2 i (by omega)
        · intro i hi
          have hi2 : i + 1 < ro.1 + 1 := hi
          show ¬ mJo N (upd ro.2.1 ro.1 x i) (upd ro.2.1 ro.1 x (i + 1)) (N_n N) = -1
          rw [pk_un (show i ≠ ro.1 by omega)]
          by_cases e : i + 1 = ro.1
          · rw [e, pk_us]
            unfold jMg at c2
            rw [decide_eq_true_eq] at c2
            rcases c2 with z | z
            · rw [show (0 : Int32) = nI 0 from rfl, nI_eq (by omega) (by decide)] at z; omega
            · obtain ⟨p2, hp2, ep2⟩ := h2 i (by omega)
              have z2 := z.2
              rw [show nI ro.1 - 1 = nI (ro.1 - 1) from pk_sub (a := ro.1) (b := 1) (by omega), show ro.1 - 1 = i by omega, rg_in (show i < ro.1 by omega) (by omega), ep2, ep, jo_eq2 h16 hB hU hp2 hp] at z2
              rw [ep2, ep]; exact z2
          · rw [pk_un e]; exact h3 i (by omega)
      · rw [if_neg c3]; exact hR
    · rw [if_neg c2]; exact hR
  · rw [if_neg c1]; exact hR
theorem p_unroute {N : TN} {ro : TR} : IVR N (jXunroute ro).2 := ⟨Nat.zero_le _, fun i hi => absurd hi (Nat.not_lt_zero _), fun i hi => absurd hi (Nat.not_lt_zero _)⟩
theorem p_branch {fo : TF} {x : Int32} (h : IVF fo) : IVF (jXbranch fo x).2 := by
  unfold jXbranch
  by_cases c1 : 1 ≤ x ∧ x ≤ 20
  · rw [if_pos c1]
    by_cases c2 : nI fo.1 < 5
    · rw [if_pos c2]
      obtain ⟨h5, hF⟩ := h
      rw [show (5 : Int32) = nI 5 from rfl, nI_ltI (by omega) (by omega)] at c2
      obtain ⟨v, hv, ev⟩ := nI_of2 (M := 20) (n := 20) (x := x) (by decide) (fun z => absurd (Int32.lt_of_le_of_lt c1.1 z) (by decide)) c1.2
      refine ⟨c2, fun b hb => ?_⟩
      have hb2 : b < fo.1 + 1 := hb
      show ∃ v : Nat, v ≤ 20 ∧ upd fo.2 fo.1 x b = nI v
      by_cases e : b = fo.1
      · subst e; exact ⟨v, hv, by rw [pk_us, ev]⟩
      · rw [pk_un e]; exact hF b (by omega)
    · rw [if_neg c2]; exact h
  · rw [if_neg c1]; exact h
theorem p_unbranch {fo : TF} : IVF (jXunbranch fo).2 := ⟨Nat.zero_le _, fun i hi => absurd hi (Nat.not_lt_zero _)⟩
theorem p_club {N : TN} {k : TC} {x y : Int32} (h : IVK k) : IVK (jXclub N k x y).2 := by
  unfold jXclub
  by_cases c1 : 0 ≤ x ∧ x ≤ 3
  · rw [if_pos c1]
    split
    · exact h
    · exact h
  · rw [if_neg c1]; exact h
theorem p_colour {k : TC} {x y v : Int32} (h : IVK k) : IVK (jXcolour k x y v).2 := by
  unfold jXcolour
  by_cases c1 : 0 ≤ x ∧ x ≤ 3
  · rw [if_pos c1]
    by_cases c2 : 0 ≤ y ∧ y ≤ 5
    · rw [if_pos c2]
      by_cases c3 : 0 ≤ v ∧ v ≤ 400
      · rw [if_pos c3]
        by_cases c4 : nI k.2.1 < 8
        · rw [if_pos c4]
          obtain ⟨h8, hC⟩ := h
          rw [show (8 : Int32) = nI 8 from rfl, nI_ltI (by omega) (by omega)] at c4
          refine ⟨c4, fun i hi => ?_⟩
          have hi2 : i < k.2.1 + 1 := hi
          show 0 ≤ upd k.2.2.2.2 k.2.1 v i
          by_cases e : i = k.2.1
          · subst e; rw [pk_us]; exact c3.1
          · rw [pk_un e]; exact hC i (by omega)
        · rw [if_neg c4]; exact h
      · rw [if_neg c3]; exact h
    · rw [if_neg c2]; exact h
  · rw [if_neg c1]; exact h
theorem p_walk {S : TS} {sb : Nat → Int32} {q : TQ} {N : TN} {pb : Nat → Int32} {w : Nat × (Nat → Int32) × Int32 × Int32} {x y : Int32} (h : w.1 ≤ 31) : (jXwalk S sb q N pb w x y).2.1 ≤ 31 := by
  unfold jXwalk
  split
  · split
    · exact jWalk_le
    · exact h
  · exact h
theorem p_walked {S : TS} {sb : Nat → Int32} {q : TQ} {N : TN} {pb : Nat → Int32} {w : Nat × (Nat → Int32) × Int32 × Int32} {x y : Int32} (h : w.1 ≤ 31) : (jXwalked S sb q N pb w x y).2.1 ≤ 31 := by
  unfold jXwalked
  split
  · split
    · exact jWalk_le
    · exact h
  · exact h
