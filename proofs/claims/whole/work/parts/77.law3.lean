set_option maxHeartbeats 4000000 in
set_option maxRecDepth 100000 in
theorem lw_c14 {p : Program} {l : Launch} {e : Env} {s : State} {m : MethodId} {below : List Frame} {meth : Method} {c : Code} {b L : Nat} {xs : Nat → Int32} {D : va_G} {cI cZ : ClassId} {a am : Nat → Nat} {i : Nat} (hc : lw_C p s m meth c b L xs D cI cZ) (hd : lw_D (fun q : Nat => s.heap.size ≤ q) a am cI cZ) (hi : i + 7 ≤ L) (nx : lw_N p l e s m below meth c b D cI cZ a am i 1048) : lw_N p l e s m below meth c b D cI cZ a am i 630 := by
  intro N pb S sb q w o wy ro t zf fo tr be k z H locs ls hI hP hPM hS hl
  obtain ⟨hx, hb, hml, hown, hts, hX, hbl, hL, hK⟩ := hc
  obtain ⟨hIN, hIS, hIQ, hw, ho8, hIR, hIT, hIF, hIK⟩ := hI
  have hbA : ¬ (fun q : Nat => s.heap.size ≤ q) b := Nat.not_le.mpr hbl
  refine lv_aload_n hx hb dL_law_630 rfl (lv_at hl 1 rfl) ?_
  refine lw_arg hx hb hX hbl hbA hS hl hL 1 (by omega) (by decide +kernel) dL_law_631 dL_law_632 dL_law_633 dL_law_634 dL_law_635 ?_
  refine mi_F (As := [.int (xs (i + 1))]) (rest := []) ⟨hx, hb, hml, hown, hts⟩ (c_X9_route l D cI cZ a N pb hIN.1 S sb q hIS.1 w hw o wy ho8 ro hIR.1 t hIT.1 zf hIT.2.1 fo tr be hIF.1 k hIK.1 (xs (i + 1))) (cw_L_74 hts rfl rfl ⟨Nat.le_of_ble_eq_true rfl, Nat.le_of_ble_eq_true rfl⟩) hK hP hd.X hS (ci := 9) rfl rfl rfl hl.1 rfl (Nat.le_of_ble_eq_true rfl) dL_law_636 ⟨Nat.le_of_ble_eq_true rfl, Nat.le_of_ble_eq_true rfl⟩ (fun r u H1 locs hp hP1 hk9 hS => ?_)
  have hPM := P_kept hPM hk9 hd.MX
  have hP : va_P D vwCl (wX a cI N pb S sb q w o wy u t fo tr be k) H1 := hP1
  clear hP1 hk9
  refine lv_aload_n hx hb dL_law_639 rfl (lv_at hl 2 rfl) ?_
  refine lw_arg hx hb hX hbl hbA hS hl hL 1 (by omega) (by decide +kernel) dL_law_640 dL_law_641 dL_law_642 dL_law_643 dL_law_644 ?_
  refine mi_F (As := [.int (xs (i + 1))]) (rest := [.int r]) ⟨hx, hb, hml, hown, hts⟩ (c_X10_route l D cI cZ am N hIN.1 S hIS.1 q o ho8 ro hIR.1 t hIT.1 fo hIF.1 k hIK.1 z  (xs (i + 1)) ) (cw_L_77 hts rfl rfl ⟨Nat.le_of_ble_eq_true rfl, Nat.le_of_ble_eq_true rfl⟩) hK hPM hd.M hS (ci := 10) rfl rfl rfl hl.1 rfl (Nat.le_of_ble_eq_true rfl) dL_law_645 ⟨Nat.le_of_ble_eq_true rfl, Nat.le_of_ble_eq_true rfl⟩ (fun r2 u2 H2 locs hp2 hP2 hk9 hS => ?_)
  have hP := P_kept hP hk9 hd.XM
  have hPM : va_P D vwCl (wM am cI cZ N S q o u2 t fo k z) H2 := hP2
  clear hP2 hk9
  have hp : (r, u) = jXroute pb ro (xs (i + 1)) := hp
  have hp2 : (r2, u2) = mXroute N ro (xs (i + 1)) := hp2
  have he : mXroute N ro (xs (i + 1)) = jXroute pb ro (xs (i + 1)) := e_route hIN.1 hIN.2.2.2.2 hIN.2.2.2.1 hIR.1 hIR.2.1 (fun i hi => hasB_at _ i hi)
  rw [he, ← hp] at hp2
  obtain ⟨e1, e2⟩ : r2 = r ∧ u2 = u := Prod.mk.inj hp2
  have hpp := p_route (x := (xs (i + 1))) hIN hIR
  rw [← hp] at hpp
  rw [e2] at hPM
  refine lv_icmp_eq (tgt := 1048) hx hb dL_law_648 (by decide) (fun _ => ?_) (fun z9 => absurd e1.symm z9)
  exact nx N pb S sb q w o wy u t zf fo tr be k z H2 locs ls ⟨hIN, hIS, hIQ, hw, ho8, hpp, hIT, hIF, hIK⟩ hP hPM hS hl
set_option maxHeartbeats 4000000 in
set_option maxRecDepth 100000 in
theorem lw_c15 {p : Program} {l : Launch} {e : Env} {s : State} {m : MethodId} {below : List Frame} {meth : Method} {c : Code} {b L : Nat} {xs : Nat → Int32} {D : va_G} {cI cZ : ClassId} {a am : Nat → Nat} {i : Nat} (hc : lw_C p s m meth c b L xs D cI cZ) (hd : lw_D (fun q : Nat => s.heap.size ≤ q) a am cI cZ) (hi : i + 7 ≤ L) (nx : lw_N p l e s m below meth c b D cI cZ a am i 1048) : lw_N p l e s m below meth c b D cI cZ a am i 653 := by
  intro N pb S sb q w o wy ro t zf fo tr be k z H locs ls hI hP hPM hS hl
  obtain ⟨hx, hb, hml, hown, hts, hX, hbl, hL, hK⟩ := hc
  obtain ⟨hIN, hIS, hIQ, hw, ho8, hIR, hIT, hIF, hIK⟩ := hI
  have hbA : ¬ (fun q : Nat => s.heap.size ≤ q) b := Nat.not_le.mpr hbl
  refine lv_aload_n hx hb dL_law_653 rfl (lv_at hl 1 rfl) ?_
  refine mi_F (As := []) (rest := []) ⟨hx, hb, hml, hown, hts⟩ (c_X9_unroute l D cI cZ a N pb hIN.1 S sb q hIS.1 w hw o wy ho8 ro hIR.1 t hIT.1 zf hIT.2.1 fo tr be hIF.1 k hIK.1 ) (cw_L_78 hts rfl rfl ⟨Nat.le_of_ble_eq_true rfl, Nat.le_of_ble_eq_true rfl⟩) hK hP hd.X hS (ci := 9) rfl rfl rfl hl.1 rfl (Nat.le_of_ble_eq_true rfl) dL_law_654 ⟨Nat.le_of_ble_eq_true rfl, Nat.le_of_ble_eq_true rfl⟩ (fun r u H1 locs hp hP1 hk9 hS => ?_)
  have hPM := P_kept hPM hk9 hd.MX
  have hP : va_P D vwCl (wX a cI N pb S sb q w o wy u t fo tr be k) H1 := hP1
  clear hP1 hk9
  refine lv_aload_n hx hb dL_law_657 rfl (lv_at hl 2 rfl) ?_
  refine mi_F (As := []) (rest := [.int r]) ⟨hx, hb, hml, hown, hts⟩ (c_X10_unroute l D cI cZ am N hIN.1 S hIS.1 q o ho8 ro hIR.1 t hIT.1 fo hIF.1 k hIK.1 z   ) (cw_L_81 hts rfl rfl ⟨Nat.le_of_ble_eq_true rfl, Nat.le_of_ble_eq_true rfl⟩) hK hPM hd.M hS (ci := 10) rfl rfl rfl hl.1 rfl (Nat.le_of_ble_eq_true rfl) dL_law_658 ⟨Nat.le_of_ble_eq_true rfl, Nat.le_of_ble_eq_true rfl⟩ (fun r2 u2 H2 locs hp2 hP2 hk9 hS => ?_)
  have hP := P_kept hP hk9 hd.XM
  have hPM : va_P D vwCl (wM am cI cZ N S q o u2 t fo k z) H2 := hP2
  clear hP2 hk9
  have hp : (r, u) = jXunroute ro := hp
  have hp2 : (r2, u2) = mXunroute ro := hp2
  have he : mXunroute ro = jXunroute ro := e_unroute (ro := ro)
  rw [he, ← hp] at hp2
  obtain ⟨e1, e2⟩ : r2 = r ∧ u2 = u := Prod.mk.inj hp2
  have hpp := p_unroute (N := N) (ro := ro)
  rw [← hp] at hpp
  rw [e2] at hPM
  refine lv_icmp_eq (tgt := 1048) hx hb dL_law_661 (by decide) (fun _ => ?_) (fun z9 => absurd e1.symm z9)
  exact nx N pb S sb q w o wy u t zf fo tr be k z H2 locs ls ⟨hIN, hIS, hIQ, hw, ho8, hpp, hIT, hIF, hIK⟩ hP hPM hS hl
set_option maxHeartbeats 4000000 in
set_option maxRecDepth 100000 in
theorem lw_c16 {p : Program} {l : Launch} {e : Env} {s : State} {m : MethodId} {below : List Frame} {meth : Method} {c : Code} {b L : Nat} {xs : Nat → Int32} {D : va_G} {cI cZ : ClassId} {a am : Nat → Nat} {i : Nat} (hc : lw_C p s m meth c b L xs D cI cZ) (hd : lw_D (fun q : Nat => s.heap.size ≤ q) a am cI cZ) (hi : i + 7 ≤ L) (nx : lw_N p l e s m below meth c b D cI cZ a am i 1048) : lw_N p l e s m below meth c b D cI cZ a am i 666 := by
  intro N pb S sb q w o wy ro t zf fo tr be k z H locs ls hI hP hPM hS hl
  obtain ⟨hx, hb, hml, hown, hts, hX, hbl, hL, hK⟩ := hc
  obtain ⟨hIN, hIS, hIQ, hw, ho8, hIR, hIT, hIF, hIK⟩ := hI
  have hbA : ¬ (fun q : Nat => s.heap.size ≤ q) b := Nat.not_le.mpr hbl
  refine lv_aload_n hx hb dL_law_666 rfl (lv_at hl 1 rfl) ?_
  refine lw_arg hx hb hX hbl hbA hS hl hL 1 (by omega) (by decide +kernel) dL_law_667 dL_law_668 dL_law_669 dL_law_670 dL_law_671 ?_
  refine ro_V (As := [.int (xs (i + 1))]) (rest := []) ⟨hx, hb, hml, hown, hts⟩ (c_X9_needed l D cI cZ a N pb hIN.1 S sb q hIS.1 w hw o wy ho8 ro hIR.1 t hIT.1 zf hIT.2.1 fo tr be hIF.1 k hIK.1 (xs (i + 1))) (cw_L_82 hts rfl rfl ⟨Nat.le_of_ble_eq_true rfl, Nat.le_of_ble_eq_true rfl⟩) hK hP (ci := 9) rfl rfl rfl hl.1 rfl (Nat.le_of_ble_eq_true rfl) dL_law_672 ⟨Nat.le_of_ble_eq_true rfl, Nat.le_of_ble_eq_true rfl⟩ ?_
  refine lv_aload_n hx hb dL_law_675 rfl (lv_at hl 2 rfl) ?_
  refine lw_arg hx hb hX hbl hbA hS hl hL 1 (by omega) (by decide +kernel) dL_law_676 dL_law_677 dL_law_678 dL_law_679 dL_law_680 ?_
  refine ro_V (As := [.int (xs (i + 1))]) (rest := [.int _]) ⟨hx, hb, hml, hown, hts⟩ (c_X10_needed l D cI cZ am N hIN.1 S hIS.1 q o ho8 ro hIR.1 t hIT.1 fo hIF.1 k hIK.1 z  (xs (i + 1)) ) (cw_L_85 hts rfl rfl ⟨Nat.le_of_ble_eq_true rfl, Nat.le_of_ble_eq_true rfl⟩) hK hPM (ci := 10) rfl rfl rfl hl.1 rfl (Nat.le_of_ble_eq_true rfl) dL_law_681 ⟨Nat.le_of_ble_eq_true rfl, Nat.le_of_ble_eq_true rfl⟩ ?_
  refine lv_icmp_eq (tgt := 1048) hx hb dL_law_684 (by decide) (fun _ => ?_) (fun z9 => absurd (e_needed hIN.1 hIS.1 hIN.2.2.2.2 hIN.2.2.2.1 hIS.2.2.2.2.2.2.2.1 hIS.2.2.2.1 hIS.2.2.2.2.2.2.1 hIS.2.2.2.2.1 hIN.2.1 hIR.1 hIR.2.1 hIR.2.2).symm z9)
  exact nx N pb S sb q w o wy ro t zf fo tr be k z H locs ls ⟨hIN, hIS, hIQ, hw, ho8, hIR, hIT, hIF, hIK⟩ hP hPM hS hl
set_option maxHeartbeats 4000000 in
set_option maxRecDepth 100000 in
theorem lw_c17 {p : Program} {l : Launch} {e : Env} {s : State} {m : MethodId} {below : List Frame} {meth : Method} {c : Code} {b L : Nat} {xs : Nat → Int32} {D : va_G} {cI cZ : ClassId} {a am : Nat → Nat} {i : Nat} (hc : lw_C p s m meth c b L xs D cI cZ) (hd : lw_D (fun q : Nat => s.heap.size ≤ q) a am cI cZ) (hi : i + 7 ≤ L) (nx : lw_N p l e s m below meth c b D cI cZ a am i 1048) : lw_N p l e s m below meth c b D cI cZ a am i 689 := by
  intro N pb S sb q w o wy ro t zf fo tr be k z H locs ls hI hP hPM hS hl
  obtain ⟨hx, hb, hml, hown, hts, hX, hbl, hL, hK⟩ := hc
  obtain ⟨hIN, hIS, hIQ, hw, ho8, hIR, hIT, hIF, hIK⟩ := hI
  have hbA : ¬ (fun q : Nat => s.heap.size ≤ q) b := Nat.not_le.mpr hbl
  refine lv_aload_n hx hb dL_law_689 rfl (lv_at hl 1 rfl) ?_
  refine lw_arg hx hb hX hbl hbA hS hl hL 1 (by omega) (by decide +kernel) dL_law_690 dL_law_691 dL_law_692 dL_law_693 dL_law_694 ?_
  refine lw_arg hx hb hX hbl hbA hS hl hL 2 (by omega) (by decide +kernel) dL_law_695 dL_law_696 dL_law_697 dL_law_698 dL_law_699 ?_
  refine lw_bool hx hb dL_law_700 dL_law_703 dL_law_704 dL_law_707 ?_
  refine mi_F (As := [.int (xs (i + 1)), .int (lw_z (xs (i + 2)))]) (rest := []) ⟨hx, hb, hml, hown, hts⟩ (c_X9_trail l D cI cZ a N pb hIN.1 S sb q hIS.1 w hw o wy ho8 ro hIR.1 t hIT.1 zf hIT.2.1 fo tr be hIF.1 k hIK.1 (xs (i + 1)) (lw_z (xs (i + 2)))) (cw_L_86 hts rfl rfl ⟨Nat.le_of_ble_eq_true rfl, Nat.le_of_ble_eq_true rfl⟩) hK hP hd.X hS (ci := 9) rfl rfl rfl hl.1 rfl (Nat.le_of_ble_eq_true rfl) dL_law_708 ⟨Nat.le_of_ble_eq_true rfl, Nat.le_of_ble_eq_true rfl⟩ (fun r u H1 locs hp hP1 hk9 hS => ?_)
  have hPM := P_kept hPM hk9 hd.MX
  have hP : va_P D vwCl (wX a cI N pb S sb q w o wy ro u fo tr be k) H1 := hP1
  clear hP1 hk9
  refine lv_aload_n hx hb dL_law_711 rfl (lv_at hl 2 rfl) ?_
  refine lw_arg hx hb hX hbl hbA hS hl hL 1 (by omega) (by decide +kernel) dL_law_712 dL_law_713 dL_law_714 dL_law_715 dL_law_716 ?_
  refine lw_arg hx hb hX hbl hbA hS hl hL 2 (by omega) (by decide +kernel) dL_law_717 dL_law_718 dL_law_719 dL_law_720 dL_law_721 ?_
  refine lw_bool hx hb dL_law_722 dL_law_725 dL_law_726 dL_law_729 ?_
  refine mi_F (As := [.int (xs (i + 1)), .int (lw_z (xs (i + 2)))]) (rest := [.int r]) ⟨hx, hb, hml, hown, hts⟩ (c_X10_trail l D cI cZ am N hIN.1 S hIS.1 q o ho8 ro hIR.1 t hIT.1 fo hIF.1 k hIK.1 z  (xs (i + 1)) (lw_z (xs (i + 2))) (lw_z01 _)) (cw_L_90 hts rfl rfl ⟨Nat.le_of_ble_eq_true rfl, Nat.le_of_ble_eq_true rfl⟩) hK hPM hd.M hS (ci := 10) rfl rfl rfl hl.1 rfl (Nat.le_of_ble_eq_true rfl) dL_law_730 ⟨Nat.le_of_ble_eq_true rfl, Nat.le_of_ble_eq_true rfl⟩ (fun r2 u2 H2 locs hp2 hP2 hk9 hS => ?_)
  have hP := P_kept hP hk9 hd.XM
  have hPM : va_P D vwCl (wM am cI cZ N S q o ro u2 fo k z) H2 := hP2
  clear hP2 hk9
  have hp : (r, u) = jXtrail t (xs (i + 1)) (lw_z (xs (i + 2))) := hp
  have hp2 : (r2, u2) = mXtrail t (xs (i + 1)) (lw_z (xs (i + 2))) := hp2
  have he : mXtrail t (xs (i + 1)) (lw_z (xs (i + 2))) = jXtrail t (xs (i + 1)) (lw_z (xs (i + 2))) := e_trail hIT.1 (lw_z01 _)
  rw [he, ← hp] at hp2
  obtain ⟨e1, e2⟩ : r2 = r ∧ u2 = u := Prod.mk.inj hp2
  obtain ⟨zg, hpp⟩ := p_trail (x := (xs (i + 1))) (y := (lw_z (xs (i + 2)))) hIT
  rw [← hp] at hpp
  rw [e2] at hPM
  refine lv_icmp_eq (tgt := 1048) hx hb dL_law_733 (by decide) (fun _ => ?_) (fun z9 => absurd e1.symm z9)
  exact nx N pb S sb q w o wy ro u zg fo tr be k z H2 locs ls ⟨hIN, hIS, hIQ, hw, ho8, hIR, hpp, hIF, hIK⟩ hP hPM hS hl
set_option maxHeartbeats 4000000 in
set_option maxRecDepth 100000 in
theorem lw_c18 {p : Program} {l : Launch} {e : Env} {s : State} {m : MethodId} {below : List Frame} {meth : Method} {c : Code} {b L : Nat} {xs : Nat → Int32} {D : va_G} {cI cZ : ClassId} {a am : Nat → Nat} {i : Nat} (hc : lw_C p s m meth c b L xs D cI cZ) (hd : lw_D (fun q : Nat => s.heap.size ≤ q) a am cI cZ) (hi : i + 7 ≤ L) (nx : lw_N p l e s m below meth c b D cI cZ a am i 1048) : lw_N p l e s m below meth c b D cI cZ a am i 738 := by
  intro N pb S sb q w o wy ro t zf fo tr be k z H locs ls hI hP hPM hS hl
  obtain ⟨hx, hb, hml, hown, hts, hX, hbl, hL, hK⟩ := hc
  obtain ⟨hIN, hIS, hIQ, hw, ho8, hIR, hIT, hIF, hIK⟩ := hI
  have hbA : ¬ (fun q : Nat => s.heap.size ≤ q) b := Nat.not_le.mpr hbl
  refine lv_aload_n hx hb dL_law_738 rfl (lv_at hl 1 rfl) ?_
  refine lw_arg hx hb hX hbl hbA hS hl hL 1 (by omega) (by decide +kernel) dL_law_739 dL_law_740 dL_law_741 dL_law_742 dL_law_743 ?_
  refine lw_arg hx hb hX hbl hbA hS hl hL 2 (by omega) (by decide +kernel) dL_law_744 dL_law_745 dL_law_746 dL_law_747 dL_law_748 ?_
  refine mi_F (As := [.int (xs (i + 1)), .int (xs (i + 2))]) (rest := []) ⟨hx, hb, hml, hown, hts⟩ (c_X9_add l D cI cZ a N pb hIN.1 S sb q hIS.1 w hw o wy ho8 ro hIR.1 t hIT.1 zf hIT.2.1 fo tr be hIF.1 k hIK.1 (xs (i + 1)) (xs (i + 2))) (cw_L_91 hts rfl rfl ⟨Nat.le_of_ble_eq_true rfl, Nat.le_of_ble_eq_true rfl⟩) hK hP hd.X hS (ci := 9) rfl rfl rfl hl.1 rfl (Nat.le_of_ble_eq_true rfl) dL_law_749 ⟨Nat.le_of_ble_eq_true rfl, Nat.le_of_ble_eq_true rfl⟩ (fun r u H1 locs hp hP1 hk9 hS => ?_)
  have hPM := P_kept hPM hk9 hd.MX
  have hP : va_P D vwCl (wX a cI N pb S sb q w o wy ro u fo tr be k) H1 := hP1
  clear hP1 hk9
  refine lv_aload_n hx hb dL_law_752 rfl (lv_at hl 2 rfl) ?_
  refine lw_arg hx hb hX hbl hbA hS hl hL 1 (by omega) (by decide +kernel) dL_law_753 dL_law_754 dL_law_755 dL_law_756 dL_law_757 ?_
  refine lw_arg hx hb hX hbl hbA hS hl hL 2 (by omega) (by decide +kernel) dL_law_758 dL_law_759 dL_law_760 dL_law_761 dL_law_762 ?_
  refine mi_F (As := [.int (xs (i + 1)), .int (xs (i + 2))]) (rest := [.int r]) ⟨hx, hb, hml, hown, hts⟩ (c_X10_add l D cI cZ am N hIN.1 S hIS.1 q o ho8 ro hIR.1 t hIT.1 fo hIF.1 k hIK.1 z zf hIT.2.1 hIT.2.2.1 (xs (i + 1)) (xs (i + 2)) ) (cw_L_94 hts rfl rfl ⟨Nat.le_of_ble_eq_true rfl, Nat.le_of_ble_eq_true rfl⟩) hK hPM hd.M hS (ci := 10) rfl rfl rfl hl.1 rfl (Nat.le_of_ble_eq_true rfl) dL_law_763 ⟨Nat.le_of_ble_eq_true rfl, Nat.le_of_ble_eq_true rfl⟩ (fun r2 u2 H2 locs hp2 hP2 hk9 hS => ?_)
  have hP := P_kept hP hk9 hd.XM
  have hPM : va_P D vwCl (wM am cI cZ N S q o ro u2 fo k z) H2 := hP2
  clear hP2 hk9
  have hp : (r, u) = jXadd pb t zf (xs (i + 1)) (xs (i + 2)) := hp
  have hp2 : (r2, u2) = mXadd N t zf (xs (i + 1)) (xs (i + 2)) := hp2
  have he : mXadd N t zf (xs (i + 1)) (xs (i + 2)) = jXadd pb t zf (xs (i + 1)) (xs (i + 2)) := e_add hIN.1 hIN.2.2.2.2 hIN.2.2.2.1 hIT.1 hIT.2.1 hIT.2.2.1 hIT.2.2.2.1
  rw [he, ← hp] at hp2
  obtain ⟨e1, e2⟩ : r2 = r ∧ u2 = u := Prod.mk.inj hp2
  obtain ⟨zg, hpp⟩ := p_add (x := (xs (i + 1))) (y := (xs (i + 2))) hIN hIT
  rw [← hp] at hpp
  rw [e2] at hPM
  refine lv_icmp_eq (tgt := 1048) hx hb dL_law_766 (by decide) (fun _ => ?_) (fun z9 => absurd e1.symm z9)
  exact nx N pb S sb q w o wy ro u zg fo tr be k z H2 locs ls ⟨hIN, hIS, hIQ, hw, ho8, hIR, hpp, hIF, hIK⟩ hP hPM hS hl
set_option maxHeartbeats 4000000 in
set_option maxRecDepth 100000 in
theorem lw_c19 {p : Program} {l : Launch} {e : Env} {s : State} {m : MethodId} {below : List Frame} {meth : Method} {c : Code} {b L : Nat} {xs : Nat → Int32} {D : va_G} {cI cZ : ClassId} {a am : Nat → Nat} {i : Nat} (hc : lw_C p s m meth c b L xs D cI cZ) (hd : lw_D (fun q : Nat => s.heap.size ≤ q) a am cI cZ) (hi : i + 7 ≤ L) (nx : lw_N p l e s m below meth c b D cI cZ a am i 1048) : lw_N p l e s m below meth c b D cI cZ a am i 771 := by
  intro N pb S sb q w o wy ro t zf fo tr be k z H locs ls hI hP hPM hS hl
  obtain ⟨hx, hb, hml, hown, hts, hX, hbl, hL, hK⟩ := hc
  obtain ⟨hIN, hIS, hIQ, hw, ho8, hIR, hIT, hIF, hIK⟩ := hI
  have hbA : ¬ (fun q : Nat => s.heap.size ≤ q) b := Nat.not_le.mpr hbl
  refine lv_aload_n hx hb dL_law_771 rfl (lv_at hl 1 rfl) ?_
  refine lw_arg hx hb hX hbl hbA hS hl hL 1 (by omega) (by decide +kernel) dL_law_772 dL_law_773 dL_law_774 dL_law_775 dL_law_776 ?_
  refine ro_V (As := [.int (xs (i + 1))]) (rest := []) ⟨hx, hb, hml, hown, hts⟩ (c_X9_breaks l D cI cZ a N pb hIN.1 S sb q hIS.1 w hw o wy ho8 ro hIR.1 t hIT.1 zf hIT.2.1 fo tr be hIF.1 k hIK.1 (xs (i + 1))) (cw_L_95 hts rfl rfl ⟨Nat.le_of_ble_eq_true rfl, Nat.le_of_ble_eq_true rfl⟩) hK hP (ci := 9) rfl rfl rfl hl.1 rfl (Nat.le_of_ble_eq_true rfl) dL_law_777 ⟨Nat.le_of_ble_eq_true rfl, Nat.le_of_ble_eq_true rfl⟩ ?_
  refine lv_aload_n hx hb dL_law_780 rfl (lv_at hl 2 rfl) ?_
  refine lw_arg hx hb hX hbl hbA hS hl hL 1 (by omega) (by decide +kernel) dL_law_781 dL_law_782 dL_law_783 dL_law_784 dL_law_785 ?_
  refine ro_V (As := [.int (xs (i + 1))]) (rest := [.int _]) ⟨hx, hb, hml, hown, hts⟩ (c_X10_breaks l D cI cZ am N hIN.1 S hIS.1 q o ho8 ro hIR.1 t hIT.1 fo hIF.1 k hIK.1 z zf hIT.2.1 hIT.2.2.1 hIT.2.2.2.2.2.1 (xs (i + 1)) ) (cw_L_98 hts rfl rfl ⟨Nat.le_of_ble_eq_true rfl, Nat.le_of_ble_eq_true rfl⟩) hK hPM (ci := 10) rfl rfl rfl hl.1 rfl (Nat.le_of_ble_eq_true rfl) dL_law_786 ⟨Nat.le_of_ble_eq_true rfl, Nat.le_of_ble_eq_true rfl⟩ ?_
  refine lv_icmp_eq (tgt := 1048) hx hb dL_law_789 (by decide) (fun _ => ?_) (fun z9 => absurd (e_breaks hIN.1 hIN.2.2.2.2 hIN.2.2.2.1 hIT.1 hIT.2.1 hIT.2.2.1 hIT.2.2.2.1 hIT.2.2.2.2.1 hIT.2.2.2.2.2.1 hIT.2.2.2.2.2.2).symm z9)
  exact nx N pb S sb q w o wy ro t zf fo tr be k z H locs ls ⟨hIN, hIS, hIQ, hw, ho8, hIR, hIT, hIF, hIK⟩ hP hPM hS hl
set_option maxHeartbeats 4000000 in
set_option maxRecDepth 100000 in
theorem lw_c20 {p : Program} {l : Launch} {e : Env} {s : State} {m : MethodId} {below : List Frame} {meth : Method} {c : Code} {b L : Nat} {xs : Nat → Int32} {D : va_G} {cI cZ : ClassId} {a am : Nat → Nat} {i : Nat} (hc : lw_C p s m meth c b L xs D cI cZ) (hd : lw_D (fun q : Nat => s.heap.size ≤ q) a am cI cZ) (hi : i + 7 ≤ L) (nx : lw_N p l e s m below meth c b D cI cZ a am i 1048) : lw_N p l e s m below meth c b D cI cZ a am i 794 := by
  intro N pb S sb q w o wy ro t zf fo tr be k z H locs ls hI hP hPM hS hl
  obtain ⟨hx, hb, hml, hown, hts, hX, hbl, hL, hK⟩ := hc
  obtain ⟨hIN, hIS, hIQ, hw, ho8, hIR, hIT, hIF, hIK⟩ := hI
  have hbA : ¬ (fun q : Nat => s.heap.size ≤ q) b := Nat.not_le.mpr hbl
  refine lv_aload_n hx hb dL_law_794 rfl (lv_at hl 1 rfl) ?_
  refine lw_arg hx hb hX hbl hbA hS hl hL 1 (by omega) (by decide +kernel) dL_law_795 dL_law_796 dL_law_797 dL_law_798 dL_law_799 ?_
  refine mi_F (As := [.int (xs (i + 1))]) (rest := []) ⟨hx, hb, hml, hown, hts⟩ (c_X9_branch l D cI cZ a N pb hIN.1 S sb q hIS.1 w hw o wy ho8 ro hIR.1 t hIT.1 zf hIT.2.1 fo tr be hIF.1 k hIK.1 (xs (i + 1))) (cw_L_99 hts rfl rfl ⟨Nat.le_of_ble_eq_true rfl, Nat.le_of_ble_eq_true rfl⟩) hK hP hd.X hS (ci := 9) rfl rfl rfl hl.1 rfl (Nat.le_of_ble_eq_true rfl) dL_law_800 ⟨Nat.le_of_ble_eq_true rfl, Nat.le_of_ble_eq_true rfl⟩ (fun r u H1 locs hp hP1 hk9 hS => ?_)
  have hPM := P_kept hPM hk9 hd.MX
  have hP : va_P D vwCl (wX a cI N pb S sb q w o wy ro t u tr be k) H1 := hP1
  clear hP1 hk9
  refine lv_aload_n hx hb dL_law_803 rfl (lv_at hl 2 rfl) ?_
  refine lw_arg hx hb hX hbl hbA hS hl hL 1 (by omega) (by decide +kernel) dL_law_804 dL_law_805 dL_law_806 dL_law_807 dL_law_808 ?_
  refine mi_F (As := [.int (xs (i + 1))]) (rest := [.int r]) ⟨hx, hb, hml, hown, hts⟩ (c_X10_branch l D cI cZ am N hIN.1 S hIS.1 q o ho8 ro hIR.1 t hIT.1 fo hIF.1 k hIK.1 z  (xs (i + 1)) ) (cw_L_102 hts rfl rfl ⟨Nat.le_of_ble_eq_true rfl, Nat.le_of_ble_eq_true rfl⟩) hK hPM hd.M hS (ci := 10) rfl rfl rfl hl.1 rfl (Nat.le_of_ble_eq_true rfl) dL_law_809 ⟨Nat.le_of_ble_eq_true rfl, Nat.le_of_ble_eq_true rfl⟩ (fun r2 u2 H2 locs hp2 hP2 hk9 hS => ?_)
  have hP := P_kept hP hk9 hd.XM
  have hPM : va_P D vwCl (wM am cI cZ N S q o ro t u2 k z) H2 := hP2
  clear hP2 hk9
  have hp : (r, u) = jXbranch fo (xs (i + 1)) := hp
  have hp2 : (r2, u2) = mXbranch fo (xs (i + 1)) := hp2
  have he : mXbranch fo (xs (i + 1)) = jXbranch fo (xs (i + 1)) := e_branch hIF.1
  rw [he, ← hp] at hp2
  obtain ⟨e1, e2⟩ : r2 = r ∧ u2 = u := Prod.mk.inj hp2
  have hpp := p_branch (x := (xs (i + 1))) hIF
  rw [← hp] at hpp
  rw [e2] at hPM
  refine lv_icmp_eq (tgt := 1048) hx hb dL_law_812 (by decide) (fun _ => ?_) (fun z9 => absurd e1.symm z9)
  exact nx N pb S sb q w o wy ro t zf u tr be k z H2 locs ls ⟨hIN, hIS, hIQ, hw, ho8, hIR, hIT, hpp, hIK⟩ hP hPM hS hl
