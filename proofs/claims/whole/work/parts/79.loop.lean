set_option maxHeartbeats 4000000 in
set_option maxRecDepth 100000 in
theorem lw_loop {p : Program} {l : Launch} {e : Env} {s : State} {m : MethodId} {below : List Frame} {meth : Method} {c : Code} {b L : Nat} {xs : Nat → Int32} {D : va_G} {cI cZ : ClassId} {a am : Nat → Nat} (hc : lw_C p s m meth c b L xs D cI cZ) (hd : lw_D (fun q : Nat => s.heap.size ≤ q) a am cI cZ) (hr : meth.sig.returnType = ret) (hlocks : meth.locks = false) : ∀ n i, L < i + n → i ≤ L → lw_N p l e s m below meth c b D cI cZ a am i 18 := by
  intro n
  induction n with
  | zero => intro i h1 h2; omega
  | succ n ih =>
    intro i hn hiL N pb S sb q w o wy ro t zf fo tr be k z H locs ls hI hP hPM hS hl
    obtain ⟨hx, hb, hml, hown, hts, hX, hbl, hL, hK⟩ := id hc
    have hbA : ¬ (fun q : Nat => s.heap.size ≤ q) b := Nat.not_le.mpr hbl
    refine lv_iload_n hx hb dL_law_18 rfl (lv_at hl 3 rfl) ?_
    refine lv_aload_n hx hb dL_law_19 rfl (lv_at hl 0 rfl) ?_
    refine va_slen hx hb hX hbl hbA hS dL_law_20 ?_
    refine lv_bipush (v := 7) hx hb dL_law_21 (by decide) ?_
    refine lv_isub hx hb dL_law_23 ?_
    have hs7 : (Int32.ofNat L - 7).toInt = (L : Int) - 7 := pk_sub_toInt (a := L) (b := 7) (by omega) (by decide)
    refine lv_icmp_gt (tgt := 1054) hx hb dL_law_24 (by decide) (fun h => ?_) (fun h => ?_)
    · refine lv_iconst (v := 1) hx hb dL_law_1054 (by decide) ?_
      exact va_forget (fun q hq => hS.2.2 q hq) (lw_ret hx hb hr hlocks dL_law_1055)
    · have hi : i + 7 ≤ L := by
        rw [Int32.lt_iff_toInt_lt, hs7, nI_toInt (by omega)] at h
        omega
      have nx : lw_N p l e s m below meth c b D cI cZ a am i 1048 := by
        intro N pb S sb q w o wy ro t zf fo tr be k z H locs ls hI hP hPM hS hl
        refine lv_iinc (v := nI (i + 7)) (lv' := [(3, .int (nI (i + 7))), (0, .ref b), (1, .ref (a 0)), (2, .ref (am 0))]) hx hb dL_law_1048 hl (k := 3) rfl (by rw [show Int32.ofInt 7 = nI 7 from rfl, nI_add]) (by decide) rfl (fun ls hl => ?_)
        refine lv_goto (tgt := 18) hx hb dL_law_1051 (by decide) ?_
        exact ih (i + 7) (by omega) hi N pb S sb q w o wy ro t zf fo tr be k z H locs ls hI hP hPM hS (lv_sub hl [1, 2, 3, 0] rfl)
      refine lv_aload_n hx hb dL_law_27 rfl (lv_at hl 0 rfl) ?_
      refine lv_iload_n hx hb dL_law_28 rfl (lv_at hl 3 rfl) ?_
      refine va_sld hx hb hX hbl hbA hS (vp_in_nI (show i < L by omega) (by omega)) dL_law_29 ?_
      rw [nI_cl (by omega)]
      refine lv_bipush (v := 31) hx hb dL_law_30 (by decide) ?_
      refine lv_iand hx hb dL_law_32 ?_
      rw [pk_and (xs i) (m := 31) 5 (by decide)]
      have ht32 : (xs i).toBitVec.toNat % 2 ^ 5 < 32 := Nat.mod_lt _ (by decide)
      generalize (xs i).toBitVec.toNat % 2 ^ 5 = tt at ht32 ⊢
      rcases (show tt = 0 ∨ tt = 1 ∨ tt = 2 ∨ tt = 3 ∨ tt = 4 ∨ tt = 5 ∨ tt = 6 ∨ tt = 7 ∨ tt = 8 ∨ tt = 9 ∨ tt = 10 ∨ tt = 11 ∨ tt = 12 ∨ tt = 13 ∨ tt = 14 ∨ tt = 15 ∨ tt = 16 ∨ tt = 17 ∨ tt = 18 ∨ tt = 19 ∨ tt = 20 ∨ tt = 21 ∨ tt = 22 ∨ tt = 23 ∨ tt = 24 ∨ tt = 25 ∨ tt = 26 ∨ tt = 27 ∨ 28 ≤ tt by omega) with rfl | rfl | rfl | rfl | rfl | rfl | rfl | rfl | rfl | rfl | rfl | rfl | rfl | rfl | rfl | rfl | rfl | rfl | rfl | rfl | rfl | rfl | rfl | rfl | rfl | rfl | rfl | rfl | ht28
      · refine lv_tableIn (off := 127) (tgt := 160) hx hb dL_law_33 (by decide +kernel) (by decide +kernel) (by decide +kernel) (by decide) ?_
        exact lw_c0 hc hd hi nx N pb S sb q w o wy ro t zf fo tr be k z H locs ls hI hP hPM hS hl
      · refine lv_tableIn (off := 170) (tgt := 203) hx hb dL_law_33 (by decide +kernel) (by decide +kernel) (by decide +kernel) (by decide) ?_
        exact lw_c1 hc hd hi nx N pb S sb q w o wy ro t zf fo tr be k z H locs ls hI hP hPM hS hl
      · refine lv_tableIn (off := 193) (tgt := 226) hx hb dL_law_33 (by decide +kernel) (by decide +kernel) (by decide +kernel) (by decide) ?_
        exact lw_c2 hc hd hi nx N pb S sb q w o wy ro t zf fo tr be k z H locs ls hI hP hPM hS hl
      · refine lv_tableIn (off := 216) (tgt := 249) hx hb dL_law_33 (by decide +kernel) (by decide +kernel) (by decide +kernel) (by decide) ?_
        exact lw_c3 hc hd hi nx N pb S sb q w o wy ro t zf fo tr be k z H locs ls hI hP hPM hS hl
      · refine lv_tableIn (off := 307) (tgt := 340) hx hb dL_law_33 (by decide +kernel) (by decide +kernel) (by decide +kernel) (by decide) ?_
        exact lw_c4 hc hd hi nx N pb S sb q w o wy ro t zf fo tr be k z H locs ls hI hP hPM hS hl
      · refine lv_tableIn (off := 340) (tgt := 373) hx hb dL_law_33 (by decide +kernel) (by decide +kernel) (by decide +kernel) (by decide) ?_
        exact lw_c5 hc hd hi nx N pb S sb q w o wy ro t zf fo tr be k z H locs ls hI hP hPM hS hl
      · refine lv_tableIn (off := 373) (tgt := 406) hx hb dL_law_33 (by decide +kernel) (by decide +kernel) (by decide +kernel) (by decide) ?_
        exact lw_c6 hc hd hi nx N pb S sb q w o wy ro t zf fo tr be k z H locs ls hI hP hPM hS hl
      · refine lv_tableIn (off := 406) (tgt := 439) hx hb dL_law_33 (by decide +kernel) (by decide +kernel) (by decide +kernel) (by decide) ?_
        exact lw_c7 hc hd hi nx N pb S sb q w o wy ro t zf fo tr be k z H locs ls hI hP hPM hS hl
      · refine lv_tableIn (off := 439) (tgt := 472) hx hb dL_law_33 (by decide +kernel) (by decide +kernel) (by decide +kernel) (by decide) ?_
        exact lw_c8 hc hd hi nx N pb S sb q w o wy ro t zf fo tr be k z H locs ls hI hP hPM hS hl
      · refine lv_tableIn (off := 472) (tgt := 505) hx hb dL_law_33 (by decide +kernel) (by decide +kernel) (by decide +kernel) (by decide) ?_
        exact lw_c9 hc hd hi nx N pb S sb q w o wy ro t zf fo tr be k z H locs ls hI hP hPM hS hl
      · refine lv_tableIn (off := 505) (tgt := 538) hx hb dL_law_33 (by decide +kernel) (by decide +kernel) (by decide +kernel) (by decide) ?_
        exact lw_c10 hc hd hi nx N pb S sb q w o wy ro t zf fo tr be k z H locs ls hI hP hPM hS hl
      · refine lv_tableIn (off := 528) (tgt := 561) hx hb dL_law_33 (by decide +kernel) (by decide +kernel) (by decide +kernel) (by decide) ?_
        exact lw_c11 hc hd hi nx N pb S sb q w o wy ro t zf fo tr be k z H locs ls hI hP hPM hS hl
      · refine lv_tableIn (off := 541) (tgt := 574) hx hb dL_law_33 (by decide +kernel) (by decide +kernel) (by decide +kernel) (by decide) ?_
        exact lw_c12 hc hd hi nx N pb S sb q w o wy ro t zf fo tr be k z H locs ls hI hP hPM hS hl
      · refine lv_tableIn (off := 564) (tgt := 597) hx hb dL_law_33 (by decide +kernel) (by decide +kernel) (by decide +kernel) (by decide) ?_
        exact lw_c13 hc hd hi nx N pb S sb q w o wy ro t zf fo tr be k z H locs ls hI hP hPM hS hl
      · refine lv_tableIn (off := 597) (tgt := 630) hx hb dL_law_33 (by decide +kernel) (by decide +kernel) (by decide +kernel) (by decide) ?_
        exact lw_c14 hc hd hi nx N pb S sb q w o wy ro t zf fo tr be k z H locs ls hI hP hPM hS hl
      · refine lv_tableIn (off := 620) (tgt := 653) hx hb dL_law_33 (by decide +kernel) (by decide +kernel) (by decide +kernel) (by decide) ?_
        exact lw_c15 hc hd hi nx N pb S sb q w o wy ro t zf fo tr be k z H locs ls hI hP hPM hS hl
      · refine lv_tableIn (off := 633) (tgt := 666) hx hb dL_law_33 (by decide +kernel) (by decide +kernel) (by decide +kernel) (by decide) ?_
        exact lw_c16 hc hd hi nx N pb S sb q w o wy ro t zf fo tr be k z H locs ls hI hP hPM hS hl
      · refine lv_tableIn (off := 656) (tgt := 689) hx hb dL_law_33 (by decide +kernel) (by decide +kernel) (by decide +kernel) (by decide) ?_
        exact lw_c17 hc hd hi nx N pb S sb q w o wy ro t zf fo tr be k z H locs ls hI hP hPM hS hl
      · refine lv_tableIn (off := 705) (tgt := 738) hx hb dL_law_33 (by decide +kernel) (by decide +kernel) (by decide +kernel) (by decide) ?_
        exact lw_c18 hc hd hi nx N pb S sb q w o wy ro t zf fo tr be k z H locs ls hI hP hPM hS hl
      · refine lv_tableIn (off := 738) (tgt := 771) hx hb dL_law_33 (by decide +kernel) (by decide +kernel) (by decide +kernel) (by decide) ?_
        exact lw_c19 hc hd hi nx N pb S sb q w o wy ro t zf fo tr be k z H locs ls hI hP hPM hS hl
      · refine lv_tableIn (off := 761) (tgt := 794) hx hb dL_law_33 (by decide +kernel) (by decide +kernel) (by decide +kernel) (by decide) ?_
        exact lw_c20 hc hd hi nx N pb S sb q w o wy ro t zf fo tr be k z H locs ls hI hP hPM hS hl
      · refine lv_tableIn (off := 784) (tgt := 817) hx hb dL_law_33 (by decide +kernel) (by decide +kernel) (by decide +kernel) (by decide) ?_
        exact lw_c21 hc hd hi nx N pb S sb q w o wy ro t zf fo tr be k z H locs ls hI hP hPM hS hl
      · refine lv_tableIn (off := 797) (tgt := 830) hx hb dL_law_33 (by decide +kernel) (by decide +kernel) (by decide +kernel) (by decide) ?_
        exact lw_c22 hc hd hi nx N pb S sb q w o wy ro t zf fo tr be k z H locs ls hI hP hPM hS hl
      · refine lv_tableIn (off := 820) (tgt := 853) hx hb dL_law_33 (by decide +kernel) (by decide +kernel) (by decide +kernel) (by decide) ?_
        exact lw_c23 hc hd hi nx N pb S sb q w o wy ro t zf fo tr be k z H locs ls hI hP hPM hS hl
      · refine lv_tableIn (off := 863) (tgt := 896) hx hb dL_law_33 (by decide +kernel) (by decide +kernel) (by decide +kernel) (by decide) ?_
        exact lw_c24 hc hd hi nx N pb S sb q w o wy ro t zf fo tr be k z H locs ls hI hP hPM hS hl
      · refine lv_tableIn (off := 896) (tgt := 929) hx hb dL_law_33 (by decide +kernel) (by decide +kernel) (by decide +kernel) (by decide) ?_
        exact lw_c25 hc hd hi nx N pb S sb q w o wy ro t zf fo tr be k z H locs ls hI hP hPM hS hl
      · refine lv_tableIn (off := 939) (tgt := 972) hx hb dL_law_33 (by decide +kernel) (by decide +kernel) (by decide +kernel) (by decide) ?_
        exact lw_c26 hc hd hi nx N pb S sb q w o wy ro t zf fo tr be k z H locs ls hI hP hPM hS hl
      · refine lv_tableIn (off := 992) (tgt := 1025) hx hb dL_law_33 (by decide +kernel) (by decide +kernel) (by decide +kernel) (by decide) ?_
        exact lw_c27 hc hd hi nx N pb S sb q w o wy ro t zf fo tr be k z H locs ls hI hP hPM hS hl
      · refine lv_tableOut (tgt := 1048) hx hb dL_law_33 (Or.inr (by rw [nI_toInt (by omega)]; omega)) (by decide) ?_
        exact nx N pb S sb q w o wy ro t zf fo tr be k z H locs ls hI hP hPM hS hl
