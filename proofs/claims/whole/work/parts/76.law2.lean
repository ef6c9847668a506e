set_option maxHeartbeats 4000000 in
set_option maxRecDepth 100000 in
theorem lw_c7 {p : Program} {l : Launch} {e : Env} {s : State} {m : MethodId} {below : List Frame} {meth : Method} {c : Code} {b L : Nat} {xs : Nat → Int32} {D : va_G} {cI cZ : ClassId} {a am : Nat → Nat} {i : Nat} (hc : lw_C p s m meth c b L xs D cI cZ) (hd : lw_D (fun q : Nat => s.heap.size ≤ q) a am cI cZ) (hi : i + 7 ≤ L) (nx : lw_N p l e s m below meth c b D cI cZ a am i 1048) : lw_N p l e s m below meth c b D cI cZ a am i 439 := by
  intro N pb S sb q w o wy ro t zf fo tr be k z H locs ls hI hP hPM hS hl
  obtain ⟨hx, hb, hml, hown, hts, hX, hbl, hL, hK⟩ := hc
  obtain ⟨hIN, hIS, hIQ, hw, ho8, hIR, hIT, hIF, hIK⟩ := hI
  have hbA : ¬ (fun q : Nat => s.heap.size ≤ q) b := Nat.not_le.mpr hbl
  refine lv_aload_n hx hb dL_law_439 rfl (lv_at hl 1 rfl) ?_
  refine lw_arg hx hb hX hbl hbA hS hl hL 1 (by omega) (by decide +kernel) dL_law_440 dL_law_441 dL_law_442 dL_law_443 dL_law_444 ?_
  refine lw_arg hx hb hX hbl hbA hS hl hL 2 (by omega) (by decide +kernel) dL_law_445 dL_law_446 dL_law_447 dL_law_448 dL_law_449 ?_
  refine ro_V (As := [.int (xs (i + 1)), .int (xs (i + 2))]) (rest := []) ⟨hx, hb, hml, hown, hts⟩ (c_X9_seen l D cI cZ a N pb hIN.1 S sb q hIS.1 w hw o wy ho8 ro hIR.1 t hIT.1 zf hIT.2.1 fo tr be hIF.1 k hIK.1 (xs (i + 1)) (xs (i + 2))) (cw_L_45 hts rfl rfl ⟨Nat.le_of_ble_eq_true rfl, Nat.le_of_ble_eq_true rfl⟩) hK hP (ci := 9) rfl rfl rfl hl.1 rfl (Nat.le_of_ble_eq_true rfl) dL_law_450 ⟨Nat.le_of_ble_eq_true rfl, Nat.le_of_ble_eq_true rfl⟩ ?_
  refine lv_aload_n hx hb dL_law_453 rfl (lv_at hl 2 rfl) ?_
  refine lw_arg hx hb hX hbl hbA hS hl hL 1 (by omega) (by decide +kernel) dL_law_454 dL_law_455 dL_law_456 dL_law_457 dL_law_458 ?_
  refine lw_arg hx hb hX hbl hbA hS hl hL 2 (by omega) (by decide +kernel) dL_law_459 dL_law_460 dL_law_461 dL_law_462 dL_law_463 ?_
  refine ro_V (As := [.int (xs (i + 1)), .int (xs (i + 2))]) (rest := [.int _]) ⟨hx, hb, hml, hown, hts⟩ (c_X10_seen l D cI cZ am N hIN.1 S hIS.1 q o ho8 ro hIR.1 t hIT.1 fo hIF.1 k hIK.1 z  (xs (i + 1)) (xs (i + 2)) ) (cw_L_48 hts rfl rfl ⟨Nat.le_of_ble_eq_true rfl, Nat.le_of_ble_eq_true rfl⟩) hK hPM (ci := 10) rfl rfl rfl hl.1 rfl (Nat.le_of_ble_eq_true rfl) dL_law_464 ⟨Nat.le_of_ble_eq_true rfl, Nat.le_of_ble_eq_true rfl⟩ ?_
  refine lv_icmp_eq (tgt := 1048) hx hb dL_law_467 (by decide) (fun _ => ?_) (fun z9 => absurd (e_seen hIN.1 hIS.1 hIN.2.2.2.2 hIS.2.2.2.2.2.2.2.1 hIS.2.2.2.1).symm z9)
  exact nx N pb S sb q w o wy ro t zf fo tr be k z H locs ls ⟨hIN, hIS, hIQ, hw, ho8, hIR, hIT, hIF, hIK⟩ hP hPM hS hl
set_option maxHeartbeats 4000000 in
set_option maxRecDepth 100000 in
theorem lw_c8 {p : Program} {l : Launch} {e : Env} {s : State} {m : MethodId} {below : List Frame} {meth : Method} {c : Code} {b L : Nat} {xs : Nat → Int32} {D : va_G} {cI cZ : ClassId} {a am : Nat → Nat} {i : Nat} (hc : lw_C p s m meth c b L xs D cI cZ) (hd : lw_D (fun q : Nat => s.heap.size ≤ q) a am cI cZ) (hi : i + 7 ≤ L) (nx : lw_N p l e s m below meth c b D cI cZ a am i 1048) : lw_N p l e s m below meth c b D cI cZ a am i 472 := by
  intro N pb S sb q w o wy ro t zf fo tr be k z H locs ls hI hP hPM hS hl
  obtain ⟨hx, hb, hml, hown, hts, hX, hbl, hL, hK⟩ := hc
  obtain ⟨hIN, hIS, hIQ, hw, ho8, hIR, hIT, hIF, hIK⟩ := hI
  have hbA : ¬ (fun q : Nat => s.heap.size ≤ q) b := Nat.not_le.mpr hbl
  refine lv_aload_n hx hb dL_law_472 rfl (lv_at hl 1 rfl) ?_
  refine lw_arg hx hb hX hbl hbA hS hl hL 1 (by omega) (by decide +kernel) dL_law_473 dL_law_474 dL_law_475 dL_law_476 dL_law_477 ?_
  refine lw_arg hx hb hX hbl hbA hS hl hL 2 (by omega) (by decide +kernel) dL_law_478 dL_law_479 dL_law_480 dL_law_481 dL_law_482 ?_
  refine mi_F (As := [.int (xs (i + 1)), .int (xs (i + 2))]) (rest := []) ⟨hx, hb, hml, hown, hts⟩ (c_X9_walk l D cI cZ a N pb hIN.1 S sb q hIS.1 w hw o wy ho8 ro hIR.1 t hIT.1 zf hIT.2.1 fo tr be hIF.1 k hIK.1 (xs (i + 1)) (xs (i + 2))) (cw_L_49 hts rfl rfl ⟨Nat.le_of_ble_eq_true rfl, Nat.le_of_ble_eq_true rfl⟩) hK hP hd.X hS (ci := 9) rfl rfl rfl hl.1 rfl (Nat.le_of_ble_eq_true rfl) dL_law_483 ⟨Nat.le_of_ble_eq_true rfl, Nat.le_of_ble_eq_true rfl⟩ (fun r u H1 locs hp hP1 hk9 hS => ?_)
  have hPM := P_kept hPM hk9 hd.MX
  have hP : va_P D vwCl (wX a cI N pb S sb q u o wy ro t fo tr be k) H1 := hP1
  clear hP1 hk9
  refine lv_aload_n hx hb dL_law_486 rfl (lv_at hl 2 rfl) ?_
  refine lw_arg hx hb hX hbl hbA hS hl hL 1 (by omega) (by decide +kernel) dL_law_487 dL_law_488 dL_law_489 dL_law_490 dL_law_491 ?_
  refine lw_arg hx hb hX hbl hbA hS hl hL 2 (by omega) (by decide +kernel) dL_law_492 dL_law_493 dL_law_494 dL_law_495 dL_law_496 ?_
  refine mi_F (As := [.int (xs (i + 1)), .int (xs (i + 2))]) (rest := [.int r]) ⟨hx, hb, hml, hown, hts⟩ (c_X10_walk l D cI cZ am N hIN.1 S hIS.1 q o ho8 ro hIR.1 t hIT.1 fo hIF.1 k hIK.1 z hIN.2.1 (iv_sv hIS.2.2.2.2.1) (xs (i + 1)) (xs (i + 2)) ) (cw_L_52 hts rfl rfl ⟨Nat.le_of_ble_eq_true rfl, Nat.le_of_ble_eq_true rfl⟩) hK hPM hd.M hS (ci := 10) rfl rfl rfl hl.1 rfl (Nat.le_of_ble_eq_true rfl) dL_law_497 ⟨Nat.le_of_ble_eq_true rfl, Nat.le_of_ble_eq_true rfl⟩ (fun r2 u2 H2 locs hp2 hP2 hk9 hS => ?_)
  have hP := P_kept hP hk9 hd.XM
  have hPM : va_P D vwCl (wM am cI cZ N S q o ro t fo k u2) H2 := hP2
  clear hP2 hk9
  have hp : (r, u) = jXwalk S sb q N pb w (xs (i + 1)) (xs (i + 2)) := hp
  have hp2 : (r2, u2) = mXwalk N S q z (xs (i + 1)) (xs (i + 2)) := hp2
  have he : (mXwalk N S q z (xs (i + 1)) (xs (i + 2))).1 = (jXwalk S sb q N pb w (xs (i + 1)) (xs (i + 2))).1 := e_walk (w := w) (z := z) hIN.1 hIS.1 hIN.2.2.2.2 hIS.2.2.2.2.2.2.2.1 hIS.2.2.2.1 hIS.2.2.2.2.2.2.1 hIS.2.2.2.2.1 hIN.2.1 hIN.2.2.1
  rw [← hp, ← hp2] at he
  have e1 : r2 = r := he
  have hpp := p_walk (S := S) (sb := sb) (q := q) (N := N) (pb := pb) (x := (xs (i + 1))) (y := (xs (i + 2))) hw
  rw [← hp] at hpp
  refine lv_icmp_eq (tgt := 1048) hx hb dL_law_500 (by decide) (fun _ => ?_) (fun z9 => absurd e1.symm z9)
  exact nx N pb S sb q u o wy ro t zf fo tr be k u2 H2 locs ls ⟨hIN, hIS, hIQ, hpp, ho8, hIR, hIT, hIF, hIK⟩ hP hPM hS hl
set_option maxHeartbeats 4000000 in
set_option maxRecDepth 100000 in
theorem lw_c9 {p : Program} {l : Launch} {e : Env} {s : State} {m : MethodId} {below : List Frame} {meth : Method} {c : Code} {b L : Nat} {xs : Nat → Int32} {D : va_G} {cI cZ : ClassId} {a am : Nat → Nat} {i : Nat} (hc : lw_C p s m meth c b L xs D cI cZ) (hd : lw_D (fun q : Nat => s.heap.size ≤ q) a am cI cZ) (hi : i + 7 ≤ L) (nx : lw_N p l e s m below meth c b D cI cZ a am i 1048) : lw_N p l e s m below meth c b D cI cZ a am i 505 := by
  intro N pb S sb q w o wy ro t zf fo tr be k z H locs ls hI hP hPM hS hl
  obtain ⟨hx, hb, hml, hown, hts, hX, hbl, hL, hK⟩ := hc
  obtain ⟨hIN, hIS, hIQ, hw, ho8, hIR, hIT, hIF, hIK⟩ := hI
  have hbA : ¬ (fun q : Nat => s.heap.size ≤ q) b := Nat.not_le.mpr hbl
  refine lv_aload_n hx hb dL_law_505 rfl (lv_at hl 1 rfl) ?_
  refine lw_arg hx hb hX hbl hbA hS hl hL 1 (by omega) (by decide +kernel) dL_law_506 dL_law_507 dL_law_508 dL_law_509 dL_law_510 ?_
  refine lw_arg hx hb hX hbl hbA hS hl hL 2 (by omega) (by decide +kernel) dL_law_511 dL_law_512 dL_law_513 dL_law_514 dL_law_515 ?_
  refine mi_F (As := [.int (xs (i + 1)), .int (xs (i + 2))]) (rest := []) ⟨hx, hb, hml, hown, hts⟩ (c_X9_walked l D cI cZ a N pb hIN.1 S sb q hIS.1 w hw o wy ho8 ro hIR.1 t hIT.1 zf hIT.2.1 fo tr be hIF.1 k hIK.1 (xs (i + 1)) (xs (i + 2))) (cw_L_53 hts rfl rfl ⟨Nat.le_of_ble_eq_true rfl, Nat.le_of_ble_eq_true rfl⟩) hK hP hd.X hS (ci := 9) rfl rfl rfl hl.1 rfl (Nat.le_of_ble_eq_true rfl) dL_law_516 ⟨Nat.le_of_ble_eq_true rfl, Nat.le_of_ble_eq_true rfl⟩ (fun r u H1 locs hp hP1 hk9 hS => ?_)
  have hPM := P_kept hPM hk9 hd.MX
  have hP : va_P D vwCl (wX a cI N pb S sb q u o wy ro t fo tr be k) H1 := hP1
  clear hP1 hk9
  refine lv_aload_n hx hb dL_law_519 rfl (lv_at hl 2 rfl) ?_
  refine lw_arg hx hb hX hbl hbA hS hl hL 1 (by omega) (by decide +kernel) dL_law_520 dL_law_521 dL_law_522 dL_law_523 dL_law_524 ?_
  refine lw_arg hx hb hX hbl hbA hS hl hL 2 (by omega) (by decide +kernel) dL_law_525 dL_law_526 dL_law_527 dL_law_528 dL_law_529 ?_
  refine mi_F (As := [.int (xs (i + 1)), .int (xs (i + 2))]) (rest := [.int r]) ⟨hx, hb, hml, hown, hts⟩ (c_X10_walked l D cI cZ am N hIN.1 S hIS.1 q o ho8 ro hIR.1 t hIT.1 fo hIF.1 k hIK.1 z hIN.2.1 (iv_sv hIS.2.2.2.2.1) (xs (i + 1)) (xs (i + 2)) ) (cw_L_56 hts rfl rfl ⟨Nat.le_of_ble_eq_true rfl, Nat.le_of_ble_eq_true rfl⟩) hK hPM hd.M hS (ci := 10) rfl rfl rfl hl.1 rfl (Nat.le_of_ble_eq_true rfl) dL_law_530 ⟨Nat.le_of_ble_eq_true rfl, Nat.le_of_ble_eq_true rfl⟩ (fun r2 u2 H2 locs hp2 hP2 hk9 hS => ?_)
  have hP := P_kept hP hk9 hd.XM
  have hPM : va_P D vwCl (wM am cI cZ N S q o ro t fo k u2) H2 := hP2
  clear hP2 hk9
  have hp : (r, u) = jXwalked S sb q N pb w (xs (i + 1)) (xs (i + 2)) := hp
  have hp2 : (r2, u2) = mXwalked N S q z (xs (i + 1)) (xs (i + 2)) := hp2
  have he : (mXwalked N S q z (xs (i + 1)) (xs (i + 2))).1 = (jXwalked S sb q N pb w (xs (i + 1)) (xs (i + 2))).1 := e_walked (w := w) (z := z) hIN.1 hIS.1 hIN.2.2.2.2 hIS.2.2.2.2.2.2.2.1 hIS.2.2.2.1 hIS.2.2.2.2.2.2.1 hIS.2.2.2.2.1 hIN.2.1 hIN.2.2.1
  rw [← hp, ← hp2] at he
  have e1 : r2 = r := he
  have hpp := p_walked (S := S) (sb := sb) (q := q) (N := N) (pb := pb) (x := (xs (i + 1))) (y := (xs (i + 2))) hw
  rw [← hp] at hpp
  refine lv_icmp_eq (tgt := 1048) hx hb dL_law_533 (by decide) (fun _ => ?_) (fun z9 => absurd e1.symm z9)
  exact nx N pb S sb q u o wy ro t zf fo tr be k u2 H2 locs ls ⟨hIN, hIS, hIQ, hpp, ho8, hIR, hIT, hIF, hIK⟩ hP hPM hS hl
set_option maxHeartbeats 4000000 in
set_option maxRecDepth 100000 in
theorem lw_c10 {p : Program} {l : Launch} {e : Env} {s : State} {m : MethodId} {below : List Frame} {meth : Method} {c : Code} {b L : Nat} {xs : Nat → Int32} {D : va_G} {cI cZ : ClassId} {a am : Nat → Nat} {i : Nat} (hc : lw_C p s m meth c b L xs D cI cZ) (hd : lw_D (fun q : Nat => s.heap.size ≤ q) a am cI cZ) (hi : i + 7 ≤ L) (nx : lw_N p l e s m below meth c b D cI cZ a am i 1048) : lw_N p l e s m below meth c b D cI cZ a am i 538 := by
  intro N pb S sb q w o wy ro t zf fo tr be k z H locs ls hI hP hPM hS hl
  obtain ⟨hx, hb, hml, hown, hts, hX, hbl, hL, hK⟩ := hc
  obtain ⟨hIN, hIS, hIQ, hw, ho8, hIR, hIT, hIF, hIK⟩ := hI
  have hbA : ¬ (fun q : Nat => s.heap.size ≤ q) b := Nat.not_le.mpr hbl
  refine lv_aload_n hx hb dL_law_538 rfl (lv_at hl 1 rfl) ?_
  refine lw_arg hx hb hX hbl hbA hS hl hL 1 (by omega) (by decide +kernel) dL_law_539 dL_law_540 dL_law_541 dL_law_542 dL_law_543 ?_
  refine mi_F (As := [.int (xs (i + 1))]) (rest := []) ⟨hx, hb, hml, hown, hts⟩ (c_X9_note l D cI cZ a N pb hIN.1 S sb q hIS.1 w hw o wy ho8 ro hIR.1 t hIT.1 zf hIT.2.1 fo tr be hIF.1 k hIK.1 (xs (i + 1))) (cw_L_57 hts rfl rfl ⟨Nat.le_of_ble_eq_true rfl, Nat.le_of_ble_eq_true rfl⟩) hK hP hd.X hS (ci := 9) rfl rfl rfl hl.1 rfl (Nat.le_of_ble_eq_true rfl) dL_law_544 ⟨Nat.le_of_ble_eq_true rfl, Nat.le_of_ble_eq_true rfl⟩ (fun r u H1 locs hp hP1 hk9 hS => ?_)
  have hPM := P_kept hPM hk9 hd.MX
  have hP : va_P D vwCl (wX a cI N pb S sb q w u wy ro t fo tr be k) H1 := hP1
  clear hP1 hk9
  refine lv_aload_n hx hb dL_law_547 rfl (lv_at hl 2 rfl) ?_
  refine lw_arg hx hb hX hbl hbA hS hl hL 1 (by omega) (by decide +kernel) dL_law_548 dL_law_549 dL_law_550 dL_law_551 dL_law_552 ?_
  refine mi_F (As := [.int (xs (i + 1))]) (rest := [.int r]) ⟨hx, hb, hml, hown, hts⟩ (c_X10_note l D cI cZ am N hIN.1 S hIS.1 q o ho8 ro hIR.1 t hIT.1 fo hIF.1 k hIK.1 z  (xs (i + 1)) ) (cw_L_60 hts rfl rfl ⟨Nat.le_of_ble_eq_true rfl, Nat.le_of_ble_eq_true rfl⟩) hK hPM hd.M hS (ci := 10) rfl rfl rfl hl.1 rfl (Nat.le_of_ble_eq_true rfl) dL_law_553 ⟨Nat.le_of_ble_eq_true rfl, Nat.le_of_ble_eq_true rfl⟩ (fun r2 u2 H2 locs hp2 hP2 hk9 hS => ?_)
  have hP := P_kept hP hk9 hd.XM
  have hPM : va_P D vwCl (wM am cI cZ N S q u2 ro t fo k z) H2 := hP2
  clear hP2 hk9
  have hp : (r, u) = jXnote o (xs (i + 1)) := hp
  have hp2 : (r2, u2) = mXnote o (xs (i + 1)) := hp2
  have he : mXnote o (xs (i + 1)) = jXnote o (xs (i + 1)) := e_note ho8
  rw [he, ← hp] at hp2
  obtain ⟨e1, e2⟩ : r2 = r ∧ u2 = u := Prod.mk.inj hp2
  have hpp := p_note (x := (xs (i + 1))) ho8
  rw [← hp] at hpp
  rw [e2] at hPM
  refine lv_icmp_eq (tgt := 1048) hx hb dL_law_556 (by decide) (fun _ => ?_) (fun z9 => absurd e1.symm z9)
  exact nx N pb S sb q w u wy ro t zf fo tr be k z H2 locs ls ⟨hIN, hIS, hIQ, hw, hpp, hIR, hIT, hIF, hIK⟩ hP hPM hS hl
set_option maxHeartbeats 4000000 in
set_option maxRecDepth 100000 in
theorem lw_c11 {p : Program} {l : Launch} {e : Env} {s : State} {m : MethodId} {below : List Frame} {meth : Method} {c : Code} {b L : Nat} {xs : Nat → Int32} {D : va_G} {cI cZ : ClassId} {a am : Nat → Nat} {i : Nat} (hc : lw_C p s m meth c b L xs D cI cZ) (hd : lw_D (fun q : Nat => s.heap.size ≤ q) a am cI cZ) (hi : i + 7 ≤ L) (nx : lw_N p l e s m below meth c b D cI cZ a am i 1048) : lw_N p l e s m below meth c b D cI cZ a am i 561 := by
  intro N pb S sb q w o wy ro t zf fo tr be k z H locs ls hI hP hPM hS hl
  obtain ⟨hx, hb, hml, hown, hts, hX, hbl, hL, hK⟩ := hc
  obtain ⟨hIN, hIS, hIQ, hw, ho8, hIR, hIT, hIF, hIK⟩ := hI
  have hbA : ¬ (fun q : Nat => s.heap.size ≤ q) b := Nat.not_le.mpr hbl
  refine lv_aload_n hx hb dL_law_561 rfl (lv_at hl 1 rfl) ?_
  refine mi_F (As := []) (rest := []) ⟨hx, hb, hml, hown, hts⟩ (c_X9_forget l D cI cZ a N pb hIN.1 S sb q hIS.1 w hw o wy ho8 ro hIR.1 t hIT.1 zf hIT.2.1 fo tr be hIF.1 k hIK.1 ) (cw_L_61 hts rfl rfl ⟨Nat.le_of_ble_eq_true rfl, Nat.le_of_ble_eq_true rfl⟩) hK hP hd.X hS (ci := 9) rfl rfl rfl hl.1 rfl (Nat.le_of_ble_eq_true rfl) dL_law_562 ⟨Nat.le_of_ble_eq_true rfl, Nat.le_of_ble_eq_true rfl⟩ (fun r u H1 locs hp hP1 hk9 hS => ?_)
  have hPM := P_kept hPM hk9 hd.MX
  have hP : va_P D vwCl (wX a cI N pb S sb q w u wy ro t fo tr be k) H1 := hP1
  clear hP1 hk9
  refine lv_aload_n hx hb dL_law_565 rfl (lv_at hl 2 rfl) ?_
  refine mi_F (As := []) (rest := [.int r]) ⟨hx, hb, hml, hown, hts⟩ (c_X10_forget l D cI cZ am N hIN.1 S hIS.1 q o ho8 ro hIR.1 t hIT.1 fo hIF.1 k hIK.1 z   ) (cw_L_65 hts rfl rfl ⟨Nat.le_of_ble_eq_true rfl, Nat.le_of_ble_eq_true rfl⟩) hK hPM hd.M hS (ci := 10) rfl rfl rfl hl.1 rfl (Nat.le_of_ble_eq_true rfl) dL_law_566 ⟨Nat.le_of_ble_eq_true rfl, Nat.le_of_ble_eq_true rfl⟩ (fun r2 u2 H2 locs hp2 hP2 hk9 hS => ?_)
  have hP := P_kept hP hk9 hd.XM
  have hPM : va_P D vwCl (wM am cI cZ N S q u2 ro t fo k z) H2 := hP2
  clear hP2 hk9
  have hp : (r, u) = jXforget o := hp
  have hp2 : (r2, u2) = mXforget o := hp2
  have he : mXforget o = jXforget o := e_forget (o := o)
  rw [he, ← hp] at hp2
  obtain ⟨e1, e2⟩ : r2 = r ∧ u2 = u := Prod.mk.inj hp2
  have hpp := p_forget (o := o)
  rw [← hp] at hpp
  rw [e2] at hPM
  refine lv_icmp_eq (tgt := 1048) hx hb dL_law_569 (by decide) (fun _ => ?_) (fun z9 => absurd e1.symm z9)
  exact nx N pb S sb q w u wy ro t zf fo tr be k z H2 locs ls ⟨hIN, hIS, hIQ, hw, hpp, hIR, hIT, hIF, hIK⟩ hP hPM hS hl
set_option maxHeartbeats 4000000 in
set_option maxRecDepth 100000 in
theorem lw_c12 {p : Program} {l : Launch} {e : Env} {s : State} {m : MethodId} {below : List Frame} {meth : Method} {c : Code} {b L : Nat} {xs : Nat → Int32} {D : va_G} {cI cZ : ClassId} {a am : Nat → Nat} {i : Nat} (hc : lw_C p s m meth c b L xs D cI cZ) (hd : lw_D (fun q : Nat => s.heap.size ≤ q) a am cI cZ) (hi : i + 7 ≤ L) (nx : lw_N p l e s m below meth c b D cI cZ a am i 1048) : lw_N p l e s m below meth c b D cI cZ a am i 574 := by
  intro N pb S sb q w o wy ro t zf fo tr be k z H locs ls hI hP hPM hS hl
  obtain ⟨hx, hb, hml, hown, hts, hX, hbl, hL, hK⟩ := hc
  obtain ⟨hIN, hIS, hIQ, hw, ho8, hIR, hIT, hIF, hIK⟩ := hI
  have hbA : ¬ (fun q : Nat => s.heap.size ≤ q) b := Nat.not_le.mpr hbl
  refine lv_aload_n hx hb dL_law_574 rfl (lv_at hl 1 rfl) ?_
  refine lw_arg hx hb hX hbl hbA hS hl hL 1 (by omega) (by decide +kernel) dL_law_575 dL_law_576 dL_law_577 dL_law_578 dL_law_579 ?_
  refine mi_F (As := [.int (xs (i + 1))]) (rest := []) ⟨hx, hb, hml, hown, hts⟩ (c_X9_ways l D cI cZ a N pb hIN.1 S sb q hIS.1 w hw o wy ho8 ro hIR.1 t hIT.1 zf hIT.2.1 fo tr be hIF.1 k hIK.1 (xs (i + 1))) (cw_L_66 hts rfl rfl ⟨Nat.le_of_ble_eq_true rfl, Nat.le_of_ble_eq_true rfl⟩) hK hP hd.X hS (ci := 9) rfl rfl rfl hl.1 rfl (Nat.le_of_ble_eq_true rfl) dL_law_580 ⟨Nat.le_of_ble_eq_true rfl, Nat.le_of_ble_eq_true rfl⟩ (fun r u H1 locs hp hP1 hk9 hS => ?_)
  have hPM := P_kept hPM hk9 hd.MX
  have hP : va_P D vwCl (wX a cI N pb S sb q w o u ro t fo tr be k) H1 := hP1
  clear hP1 hk9
  refine lv_aload_n hx hb dL_law_583 rfl (lv_at hl 2 rfl) ?_
  refine lw_arg hx hb hX hbl hbA hS hl hL 1 (by omega) (by decide +kernel) dL_law_584 dL_law_585 dL_law_586 dL_law_587 dL_law_588 ?_
  refine mi_F (As := [.int (xs (i + 1))]) (rest := [.int r]) ⟨hx, hb, hml, hown, hts⟩ (c_X10_ways l D cI cZ am N hIN.1 S hIS.1 q o ho8 ro hIR.1 t hIT.1 fo hIF.1 k hIK.1 z hIN.2.1 (xs (i + 1)) ) (cw_L_69 hts rfl rfl ⟨Nat.le_of_ble_eq_true rfl, Nat.le_of_ble_eq_true rfl⟩) hK hPM hd.M hS (ci := 10) rfl rfl rfl hl.1 rfl (Nat.le_of_ble_eq_true rfl) dL_law_589 ⟨Nat.le_of_ble_eq_true rfl, Nat.le_of_ble_eq_true rfl⟩ (fun r2 u2 H2 locs hp2 hP2 hk9 hS => ?_)
  have hP := P_kept hP hk9 hd.XM
  have hPM : va_P D vwCl (wM am cI cZ N S q o ro t fo k u2) H2 := hP2
  clear hP2 hk9
  have hp : (r, u) = jXways S sb q N pb o wy (xs (i + 1)) := hp
  have hp2 : (r2, u2) = mXways N S q o z (xs (i + 1)) := hp2
  have he : (mXways N S q o z (xs (i + 1))).1 = (jXways S sb q N pb o wy (xs (i + 1))).1 := e_ways (wy := wy) (z := z) hIN.1 hIS.1 hIN.2.2.2.2 hIS.2.2.2.2.2.2.2.1 hIS.2.2.2.1 hIN.2.1 ho8
  rw [← hp, ← hp2] at he
  have e1 : r2 = r := he
  refine lv_icmp_eq (tgt := 1048) hx hb dL_law_592 (by decide) (fun _ => ?_) (fun z9 => absurd e1.symm z9)
  exact nx N pb S sb q w o u ro t zf fo tr be k u2 H2 locs ls ⟨hIN, hIS, hIQ, hw, ho8, hIR, hIT, hIF, hIK⟩ hP hPM hS hl
set_option maxHeartbeats 4000000 in
set_option maxRecDepth 100000 in
theorem lw_c13 {p : Program} {l : Launch} {e : Env} {s : State} {m : MethodId} {below : List Frame} {meth : Method} {c : Code} {b L : Nat} {xs : Nat → Int32} {D : va_G} {cI cZ : ClassId} {a am : Nat → Nat} {i : Nat} (hc : lw_C p s m meth c b L xs D cI cZ) (hd : lw_D (fun q : Nat => s.heap.size ≤ q) a am cI cZ) (hi : i + 7 ≤ L) (nx : lw_N p l e s m below meth c b D cI cZ a am i 1048) : lw_N p l e s m below meth c b D cI cZ a am i 597 := by
  intro N pb S sb q w o wy ro t zf fo tr be k z H locs ls hI hP hPM hS hl
  obtain ⟨hx, hb, hml, hown, hts, hX, hbl, hL, hK⟩ := hc
  obtain ⟨hIN, hIS, hIQ, hw, ho8, hIR, hIT, hIF, hIK⟩ := hI
  have hbA : ¬ (fun q : Nat => s.heap.size ≤ q) b := Nat.not_le.mpr hbl
  refine lv_aload_n hx hb dL_law_597 rfl (lv_at hl 1 rfl) ?_
  refine lw_arg hx hb hX hbl hbA hS hl hL 1 (by omega) (by decide +kernel) dL_law_598 dL_law_599 dL_law_600 dL_law_601 dL_law_602 ?_
  refine lw_arg hx hb hX hbl hbA hS hl hL 2 (by omega) (by decide +kernel) dL_law_603 dL_law_604 dL_law_605 dL_law_606 dL_law_607 ?_
  refine mi_F (As := [.int (xs (i + 1)), .int (xs (i + 2))]) (rest := []) ⟨hx, hb, hml, hown, hts⟩ (c_X9_only l D cI cZ a N pb hIN.1 S sb q hIS.1 w hw o wy ho8 ro hIR.1 t hIT.1 zf hIT.2.1 fo tr be hIF.1 k hIK.1 (xs (i + 1)) (xs (i + 2))) (cw_L_70 hts rfl rfl ⟨Nat.le_of_ble_eq_true rfl, Nat.le_of_ble_eq_true rfl⟩) hK hP hd.X hS (ci := 9) rfl rfl rfl hl.1 rfl (Nat.le_of_ble_eq_true rfl) dL_law_608 ⟨Nat.le_of_ble_eq_true rfl, Nat.le_of_ble_eq_true rfl⟩ (fun r u H1 locs hp hP1 hk9 hS => ?_)
  have hPM := P_kept hPM hk9 hd.MX
  have hP : va_P D vwCl (wX a cI N pb S sb q w o u ro t fo tr be k) H1 := hP1
  clear hP1 hk9
  refine lv_aload_n hx hb dL_law_611 rfl (lv_at hl 2 rfl) ?_
  refine lw_arg hx hb hX hbl hbA hS hl hL 1 (by omega) (by decide +kernel) dL_law_612 dL_law_613 dL_law_614 dL_law_615 dL_law_616 ?_
  refine lw_arg hx hb hX hbl hbA hS hl hL 2 (by omega) (by decide +kernel) dL_law_617 dL_law_618 dL_law_619 dL_law_620 dL_law_621 ?_
  refine mi_F (As := [.int (xs (i + 1)), .int (xs (i + 2))]) (rest := [.int r]) ⟨hx, hb, hml, hown, hts⟩ (c_X10_only l D cI cZ am N hIN.1 S hIS.1 q o ho8 ro hIR.1 t hIT.1 fo hIF.1 k hIK.1 z hIN.2.1 (xs (i + 1)) (xs (i + 2)) ) (cw_L_73 hts rfl rfl ⟨Nat.le_of_ble_eq_true rfl, Nat.le_of_ble_eq_true rfl⟩) hK hPM hd.M hS (ci := 10) rfl rfl rfl hl.1 rfl (Nat.le_of_ble_eq_true rfl) dL_law_622 ⟨Nat.le_of_ble_eq_true rfl, Nat.le_of_ble_eq_true rfl⟩ (fun r2 u2 H2 locs hp2 hP2 hk9 hS => ?_)
  have hP := P_kept hP hk9 hd.XM
  have hPM : va_P D vwCl (wM am cI cZ N S q o ro t fo k u2) H2 := hP2
  clear hP2 hk9
  have hp : (r, u) = jXonly S sb q N pb o wy (xs (i + 1)) (xs (i + 2)) := hp
  have hp2 : (r2, u2) = mXonly N S q o z (xs (i + 1)) (xs (i + 2)) := hp2
  have he : (mXonly N S q o z (xs (i + 1)) (xs (i + 2))).1 = (jXonly S sb q N pb o wy (xs (i + 1)) (xs (i + 2))).1 := e_only (wy := wy) (z := z) hIN.1 hIS.1 hIN.2.2.2.2 hIS.2.2.2.2.2.2.2.1 hIS.2.2.2.1 hIN.2.1 ho8
  rw [← hp, ← hp2] at he
  have e1 : r2 = r := he
  refine lv_icmp_eq (tgt := 1048) hx hb dL_law_625 (by decide) (fun _ => ?_) (fun z9 => absurd e1.symm z9)
  exact nx N pb S sb q w o u ro t zf fo tr be k u2 H2 locs ls ⟨hIN, hIS, hIQ, hw, ho8, hIR, hIT, hIF, hIK⟩ hP hPM hS hl
