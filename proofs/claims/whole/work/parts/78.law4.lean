set_option maxHeartbeats 4000000 in
set_option maxRecDepth 100000 in
theorem lw_c21 {p : Program} {l : Launch} {e : Env} {s : State} {m : MethodId} {below : List Frame} {meth : Method} {c : Code} {b L : Nat} {xs : Nat → Int32} {D : va_G} {cI cZ : ClassId} {a am : Nat → Nat} {i : Nat} (hc : lw_C p s m meth c b L xs D cI cZ) (hd : lw_D (fun q : Nat => s.heap.size ≤ q) a am cI cZ) (hi : i + 7 ≤ L) (nx : lw_N p l e s m below meth c b D cI cZ a am i 1048) : lw_N p l e s m below meth c b D cI cZ a am i 817 := by
  intro N pb S sb q w o wy ro t zf fo tr be k z H locs ls hI hP hPM hS hl
  obtain ⟨hx, hb, hml, hown, hts, hX, hbl, hL, hK⟩ := hc
  obtain ⟨hIN, hIS, hIQ, hw, ho8, hIR, hIT, hIF, hIK⟩ := hI
  have hbA : ¬ (fun q : Nat => s.heap.size ≤ q) b := Nat.not_le.mpr hbl
  refine lv_aload_n hx hb dL_law_817 rfl (lv_at hl 1 rfl) ?_
  refine mi_F (As := []) (rest := []) ⟨hx, hb, hml, hown, hts⟩ (c_X9_unbranch l D cI cZ a N pb hIN.1 S sb q hIS.1 w hw o wy ho8 ro hIR.1 t hIT.1 zf hIT.2.1 fo tr be hIF.1 k hIK.1 ) (cw_L_103 hts rfl rfl ⟨Nat.le_of_ble_eq_true rfl, Nat.le_of_ble_eq_true rfl⟩) hK hP hd.X hS (ci := 9) rfl rfl rfl hl.1 rfl (Nat.le_of_ble_eq_true rfl) dL_law_818 ⟨Nat.le_of_ble_eq_true rfl, Nat.le_of_ble_eq_true rfl⟩ (fun r u H1 locs hp hP1 hk9 hS => ?_)
  have hPM := P_kept hPM hk9 hd.MX
  have hP : va_P D vwCl (wX a cI N pb S sb q w o wy ro t u tr be k) H1 := hP1
  clear hP1 hk9
  refine lv_aload_n hx hb dL_law_821 rfl (lv_at hl 2 rfl) ?_
  refine mi_F (As := []) (rest := [.int r]) ⟨hx, hb, hml, hown, hts⟩ (c_X10_unbranch l D cI cZ am N hIN.1 S hIS.1 q o ho8 ro hIR.1 t hIT.1 fo hIF.1 k hIK.1 z   ) (cw_L_106 hts rfl rfl ⟨Nat.le_of_ble_eq_true rfl, Nat.le_of_ble_eq_true rfl⟩) hK hPM hd.M hS (ci := 10) rfl rfl rfl hl.1 rfl (Nat.le_of_ble_eq_true rfl) dL_law_822 ⟨Nat.le_of_ble_eq_true rfl, Nat.le_of_ble_eq_true rfl⟩ (fun r2 u2 H2 locs hp2 hP2 hk9 hS => ?_)
  have hP := P_kept hP hk9 hd.XM
  have hPM : va_P D vwCl (wM am cI cZ N S q o ro t u2 k z) H2 := hP2
  clear hP2 hk9
  have hp : (r, u) = jXunbranch fo := hp
  have hp2 : (r2, u2) = mXunbranch fo := hp2
  have he : mXunbranch fo = jXunbranch fo := e_unbranch (fo := fo)
  rw [he, ← hp] at hp2
  obtain ⟨e1, e2⟩ : r2 = r ∧ u2 = u := Prod.mk.inj hp2
  have hpp := p_unbranch (fo := fo)
  rw [← hp] at hpp
  rw [e2] at hPM
  refine lv_icmp_eq (tgt := 1048) hx hb dL_law_825 (by decide) (fun _ => ?_) (fun z9 => absurd e1.symm z9)
  exact nx N pb S sb q w o wy ro t zf u tr be k z H2 locs ls ⟨hIN, hIS, hIQ, hw, ho8, hIR, hIT, hpp, hIK⟩ hP hPM hS hl
set_option maxHeartbeats 4000000 in
set_option maxRecDepth 100000 in
theorem lw_c22 {p : Program} {l : Launch} {e : Env} {s : State} {m : MethodId} {below : List Frame} {meth : Method} {c : Code} {b L : Nat} {xs : Nat → Int32} {D : va_G} {cI cZ : ClassId} {a am : Nat → Nat} {i : Nat} (hc : lw_C p s m meth c b L xs D cI cZ) (hd : lw_D (fun q : Nat => s.heap.size ≤ q) a am cI cZ) (hi : i + 7 ≤ L) (nx : lw_N p l e s m below meth c b D cI cZ a am i 1048) : lw_N p l e s m below meth c b D cI cZ a am i 830 := by
  intro N pb S sb q w o wy ro t zf fo tr be k z H locs ls hI hP hPM hS hl
  obtain ⟨hx, hb, hml, hown, hts, hX, hbl, hL, hK⟩ := hc
  obtain ⟨hIN, hIS, hIQ, hw, ho8, hIR, hIT, hIF, hIK⟩ := hI
  have hbA : ¬ (fun q : Nat => s.heap.size ≤ q) b := Nat.not_le.mpr hbl
  refine lv_aload_n hx hb dL_law_830 rfl (lv_at hl 1 rfl) ?_
  refine lw_arg hx hb hX hbl hbA hS hl hL 1 (by omega) (by decide +kernel) dL_law_831 dL_law_832 dL_law_833 dL_law_834 dL_law_835 ?_
  refine mi_F (As := [.int (xs (i + 1))]) (rest := []) ⟨hx, hb, hml, hown, hts⟩ (c_X9_worst l D cI cZ a N pb hIN.1 S sb q hIS.1 w hw o wy ho8 ro hIR.1 t hIT.1 zf hIT.2.1 fo tr be hIF.1 k hIK.1 (xs (i + 1))) (cw_L_107 hts rfl rfl ⟨Nat.le_of_ble_eq_true rfl, Nat.le_of_ble_eq_true rfl⟩) hK hP hd.X hS (ci := 9) rfl rfl rfl hl.1 rfl (Nat.le_of_ble_eq_true rfl) dL_law_836 ⟨Nat.le_of_ble_eq_true rfl, Nat.le_of_ble_eq_true rfl⟩ (fun r u H1 locs hp hP1 hk9 hS => ?_)
  have hPM := P_kept hPM hk9 hd.MX
  have hP : va_P D vwCl (wX a cI N pb S sb q w o wy ro t fo u.1 u.2 k) H1 := hP1
  clear hP1 hk9
  refine lv_aload_n hx hb dL_law_839 rfl (lv_at hl 2 rfl) ?_
  refine lw_arg hx hb hX hbl hbA hS hl hL 1 (by omega) (by decide +kernel) dL_law_840 dL_law_841 dL_law_842 dL_law_843 dL_law_844 ?_
  refine mi_F (As := [.int (xs (i + 1))]) (rest := [.int r]) ⟨hx, hb, hml, hown, hts⟩ (c_X10_worst l D cI cZ am N hIN.1 S hIS.1 q o ho8 ro hIR.1 t hIT.1 fo hIF.1 k hIK.1 z  (xs (i + 1)) ) (cw_L_110 hts rfl rfl ⟨Nat.le_of_ble_eq_true rfl, Nat.le_of_ble_eq_true rfl⟩) hK hPM hd.M hS (ci := 10) rfl rfl rfl hl.1 rfl (Nat.le_of_ble_eq_true rfl) dL_law_845 ⟨Nat.le_of_ble_eq_true rfl, Nat.le_of_ble_eq_true rfl⟩ (fun r2 u2 H2 locs hp2 hP2 hk9 hS => ?_)
  have hP := P_kept hP hk9 hd.XM
  have hPM : va_P D vwCl (wM am cI cZ N S q o ro t fo k u2) H2 := hP2
  clear hP2 hk9
  have hp : (r, u) = jXworst fo tr be (xs (i + 1)) := hp
  have hp2 : (r2, u2) = mXworst fo z (xs (i + 1)) := hp2
  have he : (mXworst fo z (xs (i + 1))).1 = (jXworst fo tr be (xs (i + 1))).1 := e_worst (tr := tr) (be := be) (z := z) hIF.2 hIF.1
  rw [← hp, ← hp2] at he
  have e1 : r2 = r := he
  refine lv_icmp_eq (tgt := 1048) hx hb dL_law_848 (by decide) (fun _ => ?_) (fun z9 => absurd e1.symm z9)
  exact nx N pb S sb q w o wy ro t zf fo (u.1) (u.2) k u2 H2 locs ls ⟨hIN, hIS, hIQ, hw, ho8, hIR, hIT, hIF, hIK⟩ hP hPM hS hl
set_option maxHeartbeats 4000000 in
set_option maxRecDepth 100000 in
theorem lw_c23 {p : Program} {l : Launch} {e : Env} {s : State} {m : MethodId} {below : List Frame} {meth : Method} {c : Code} {b L : Nat} {xs : Nat → Int32} {D : va_G} {cI cZ : ClassId} {a am : Nat → Nat} {i : Nat} (hc : lw_C p s m meth c b L xs D cI cZ) (hd : lw_D (fun q : Nat => s.heap.size ≤ q) a am cI cZ) (hi : i + 7 ≤ L) (nx : lw_N p l e s m below meth c b D cI cZ a am i 1048) : lw_N p l e s m below meth c b D cI cZ a am i 853 := by
  intro N pb S sb q w o wy ro t zf fo tr be k z H locs ls hI hP hPM hS hl
  obtain ⟨hx, hb, hml, hown, hts, hX, hbl, hL, hK⟩ := hc
  obtain ⟨hIN, hIS, hIQ, hw, ho8, hIR, hIT, hIF, hIK⟩ := hI
  have hbA : ¬ (fun q : Nat => s.heap.size ≤ q) b := Nat.not_le.mpr hbl
  refine lv_aload_n hx hb dL_law_853 rfl (lv_at hl 1 rfl) ?_
  refine lw_arg hx hb hX hbl hbA hS hl hL 1 (by omega) (by decide +kernel) dL_law_854 dL_law_855 dL_law_856 dL_law_857 dL_law_858 ?_
  refine lw_arg hx hb hX hbl hbA hS hl hL 2 (by omega) (by decide +kernel) dL_law_859 dL_law_860 dL_law_861 dL_law_862 dL_law_863 ?_
  refine lw_arg hx hb hX hbl hbA hS hl hL 3 (by omega) (by decide +kernel) dL_law_864 dL_law_865 dL_law_866 dL_law_867 dL_law_868 ?_
  refine mi_F (As := [.int (xs (i + 1)), .int (xs (i + 2)), .int (xs (i + 3))]) (rest := []) ⟨hx, hb, hml, hown, hts⟩ (c_X9_split l D cI cZ a N pb hIN.1 S sb q hIS.1 w hw o wy ho8 ro hIR.1 t hIT.1 zf hIT.2.1 fo tr be hIF.1 k hIK.1 (xs (i + 1)) (xs (i + 2)) (xs (i + 3))) (cw_L_111 hts rfl rfl ⟨Nat.le_of_ble_eq_true rfl, Nat.le_of_ble_eq_true rfl⟩) hK hP hd.X hS (ci := 9) rfl rfl rfl hl.1 rfl (Nat.le_of_ble_eq_true rfl) dL_law_869 ⟨Nat.le_of_ble_eq_true rfl, Nat.le_of_ble_eq_true rfl⟩ (fun r u H1 locs hp hP1 hk9 hS => ?_)
  have hPM := P_kept hPM hk9 hd.MX
  have hP : va_P D vwCl (wX a cI N pb S sb q w o wy ro t fo u.1 u.2 k) H1 := hP1
  clear hP1 hk9
  refine lv_aload_n hx hb dL_law_872 rfl (lv_at hl 2 rfl) ?_
  refine lw_arg hx hb hX hbl hbA hS hl hL 1 (by omega) (by decide +kernel) dL_law_873 dL_law_874 dL_law_875 dL_law_876 dL_law_877 ?_
  refine lw_arg hx hb hX hbl hbA hS hl hL 2 (by omega) (by decide +kernel) dL_law_878 dL_law_879 dL_law_880 dL_law_881 dL_law_882 ?_
  refine lw_arg hx hb hX hbl hbA hS hl hL 3 (by omega) (by decide +kernel) dL_law_883 dL_law_884 dL_law_885 dL_law_886 dL_law_887 ?_
  refine mi_F (As := [.int (xs (i + 1)), .int (xs (i + 2)), .int (xs (i + 3))]) (rest := [.int r]) ⟨hx, hb, hml, hown, hts⟩ (c_X10_split l D cI cZ am N hIN.1 S hIS.1 q o ho8 ro hIR.1 t hIT.1 fo hIF.1 k hIK.1 z  (xs (i + 1)) (xs (i + 2)) (xs (i + 3)) ) (cw_L_114 hts rfl rfl ⟨Nat.le_of_ble_eq_true rfl, Nat.le_of_ble_eq_true rfl⟩) hK hPM hd.M hS (ci := 10) rfl rfl rfl hl.1 rfl (Nat.le_of_ble_eq_true rfl) dL_law_888 ⟨Nat.le_of_ble_eq_true rfl, Nat.le_of_ble_eq_true rfl⟩ (fun r2 u2 H2 locs hp2 hP2 hk9 hS => ?_)
  have hP := P_kept hP hk9 hd.XM
  have hPM : va_P D vwCl (wM am cI cZ N S q o ro t fo k u2) H2 := hP2
  clear hP2 hk9
  have hp : (r, u) = jXsplit fo tr be (xs (i + 1)) (xs (i + 2)) (xs (i + 3)) := hp
  have hp2 : (r2, u2) = mXsplit fo z (xs (i + 1)) (xs (i + 2)) (xs (i + 3)) := hp2
  have he : (mXsplit fo z (xs (i + 1)) (xs (i + 2)) (xs (i + 3))).1 = (jXsplit fo tr be (xs (i + 1)) (xs (i + 2)) (xs (i + 3))).1 := e_split (tr := tr) (be := be) (z := z) hIF.2 hIF.1
  rw [← hp, ← hp2] at he
  have e1 : r2 = r := he
  refine lv_icmp_eq (tgt := 1048) hx hb dL_law_891 (by decide) (fun _ => ?_) (fun z9 => absurd e1.symm z9)
  exact nx N pb S sb q w o wy ro t zf fo (u.1) (u.2) k u2 H2 locs ls ⟨hIN, hIS, hIQ, hw, ho8, hIR, hIT, hIF, hIK⟩ hP hPM hS hl
set_option maxHeartbeats 4000000 in
set_option maxRecDepth 100000 in
theorem lw_c24 {p : Program} {l : Launch} {e : Env} {s : State} {m : MethodId} {below : List Frame} {meth : Method} {c : Code} {b L : Nat} {xs : Nat → Int32} {D : va_G} {cI cZ : ClassId} {a am : Nat → Nat} {i : Nat} (hc : lw_C p s m meth c b L xs D cI cZ) (hd : lw_D (fun q : Nat => s.heap.size ≤ q) a am cI cZ) (hi : i + 7 ≤ L) (nx : lw_N p l e s m below meth c b D cI cZ a am i 1048) : lw_N p l e s m below meth c b D cI cZ a am i 896 := by
  intro N pb S sb q w o wy ro t zf fo tr be k z H locs ls hI hP hPM hS hl
  obtain ⟨hx, hb, hml, hown, hts, hX, hbl, hL, hK⟩ := hc
  obtain ⟨hIN, hIS, hIQ, hw, ho8, hIR, hIT, hIF, hIK⟩ := hI
  have hbA : ¬ (fun q : Nat => s.heap.size ≤ q) b := Nat.not_le.mpr hbl
  refine lv_aload_n hx hb dL_law_896 rfl (lv_at hl 1 rfl) ?_
  refine lw_arg hx hb hX hbl hbA hS hl hL 1 (by omega) (by decide +kernel) dL_law_897 dL_law_898 dL_law_899 dL_law_900 dL_law_901 ?_
  refine lw_arg hx hb hX hbl hbA hS hl hL 2 (by omega) (by decide +kernel) dL_law_902 dL_law_903 dL_law_904 dL_law_905 dL_law_906 ?_
  refine mi_F (As := [.int (xs (i + 1)), .int (xs (i + 2))]) (rest := []) ⟨hx, hb, hml, hown, hts⟩ (c_X9_club l D cI cZ a N pb hIN.1 S sb q hIS.1 w hw o wy ho8 ro hIR.1 t hIT.1 zf hIT.2.1 fo tr be hIF.1 k hIK.1 (xs (i + 1)) (xs (i + 2))) (cw_L_115 hts rfl rfl ⟨Nat.le_of_ble_eq_true rfl, Nat.le_of_ble_eq_true rfl⟩) hK hP hd.X hS (ci := 9) rfl rfl rfl hl.1 rfl (Nat.le_of_ble_eq_true rfl) dL_law_907 ⟨Nat.le_of_ble_eq_true rfl, Nat.le_of_ble_eq_true rfl⟩ (fun r u H1 locs hp hP1 hk9 hS => ?_)
  have hPM := P_kept hPM hk9 hd.MX
  have hP : va_P D vwCl (wX a cI N pb S sb q w o wy ro t fo tr be u) H1 := hP1
  clear hP1 hk9
  refine lv_aload_n hx hb dL_law_910 rfl (lv_at hl 2 rfl) ?_
  refine lw_arg hx hb hX hbl hbA hS hl hL 1 (by omega) (by decide +kernel) dL_law_911 dL_law_912 dL_law_913 dL_law_914 dL_law_915 ?_
  refine lw_arg hx hb hX hbl hbA hS hl hL 2 (by omega) (by decide +kernel) dL_law_916 dL_law_917 dL_law_918 dL_law_919 dL_law_920 ?_
  refine mi_F (As := [.int (xs (i + 1)), .int (xs (i + 2))]) (rest := [.int r]) ⟨hx, hb, hml, hown, hts⟩ (c_X10_club l D cI cZ am N hIN.1 S hIS.1 q o ho8 ro hIR.1 t hIT.1 fo hIF.1 k hIK.1 z  (xs (i + 1)) (xs (i + 2)) ) (cw_L_118 hts rfl rfl ⟨Nat.le_of_ble_eq_true rfl, Nat.le_of_ble_eq_true rfl⟩) hK hPM hd.M hS (ci := 10) rfl rfl rfl hl.1 rfl (Nat.le_of_ble_eq_true rfl) dL_law_921 ⟨Nat.le_of_ble_eq_true rfl, Nat.le_of_ble_eq_true rfl⟩ (fun r2 u2 H2 locs hp2 hP2 hk9 hS => ?_)
  have hP := P_kept hP hk9 hd.XM
  have hPM : va_P D vwCl (wM am cI cZ N S q o ro t fo u2 z) H2 := hP2
  clear hP2 hk9
  have hp : (r, u) = jXclub N k (xs (i + 1)) (xs (i + 2)) := hp
  have hp2 : (r2, u2) = mXclub N k (xs (i + 1)) (xs (i + 2)) := hp2
  have he : mXclub N k (xs (i + 1)) (xs (i + 2)) = jXclub N k (xs (i + 1)) (xs (i + 2)) := e_club hIN.1
  rw [he, ← hp] at hp2
  obtain ⟨e1, e2⟩ : r2 = r ∧ u2 = u := Prod.mk.inj hp2
  have hpp := p_club (N := N) (x := (xs (i + 1))) (y := (xs (i + 2))) hIK
  rw [← hp] at hpp
  rw [e2] at hPM
  refine lv_icmp_eq (tgt := 1048) hx hb dL_law_924 (by decide) (fun _ => ?_) (fun z9 => absurd e1.symm z9)
  exact nx N pb S sb q w o wy ro t zf fo tr be u z H2 locs ls ⟨hIN, hIS, hIQ, hw, ho8, hIR, hIT, hIF, hpp⟩ hP hPM hS hl
set_option maxHeartbeats 4000000 in
set_option maxRecDepth 100000 in
theorem lw_c25 {p : Program} {l : Launch} {e : Env} {s : State} {m : MethodId} {below : List Frame} {meth : Method} {c : Code} {b L : Nat} {xs : Nat → Int32} {D : va_G} {cI cZ : ClassId} {a am : Nat → Nat} {i : Nat} (hc : lw_C p s m meth c b L xs D cI cZ) (hd : lw_D (fun q : Nat => s.heap.size ≤ q) a am cI cZ) (hi : i + 7 ≤ L) (nx : lw_N p l e s m below meth c b D cI cZ a am i 1048) : lw_N p l e s m below meth c b D cI cZ a am i 929 := by
  intro N pb S sb q w o wy ro t zf fo tr be k z H locs ls hI hP hPM hS hl
  obtain ⟨hx, hb, hml, hown, hts, hX, hbl, hL, hK⟩ := hc
  obtain ⟨hIN, hIS, hIQ, hw, ho8, hIR, hIT, hIF, hIK⟩ := hI
  have hbA : ¬ (fun q : Nat => s.heap.size ≤ q) b := Nat.not_le.mpr hbl
  refine lv_aload_n hx hb dL_law_929 rfl (lv_at hl 1 rfl) ?_
  refine lw_arg hx hb hX hbl hbA hS hl hL 1 (by omega) (by decide +kernel) dL_law_930 dL_law_931 dL_law_932 dL_law_933 dL_law_934 ?_
  refine lw_arg hx hb hX hbl hbA hS hl hL 2 (by omega) (by decide +kernel) dL_law_935 dL_law_936 dL_law_937 dL_law_938 dL_law_939 ?_
  refine lw_arg hx hb hX hbl hbA hS hl hL 3 (by omega) (by decide +kernel) dL_law_940 dL_law_941 dL_law_942 dL_law_943 dL_law_944 ?_
  refine mi_F (As := [.int (xs (i + 1)), .int (xs (i + 2)), .int (xs (i + 3))]) (rest := []) ⟨hx, hb, hml, hown, hts⟩ (c_X9_colour l D cI cZ a N pb hIN.1 S sb q hIS.1 w hw o wy ho8 ro hIR.1 t hIT.1 zf hIT.2.1 fo tr be hIF.1 k hIK.1 (xs (i + 1)) (xs (i + 2)) (xs (i + 3))) (cw_L_119 hts rfl rfl ⟨Nat.le_of_ble_eq_true rfl, Nat.le_of_ble_eq_true rfl⟩) hK hP hd.X hS (ci := 9) rfl rfl rfl hl.1 rfl (Nat.le_of_ble_eq_true rfl) dL_law_945 ⟨Nat.le_of_ble_eq_true rfl, Nat.le_of_ble_eq_true rfl⟩ (fun r u H1 locs hp hP1 hk9 hS => ?_)
  have hPM := P_kept hPM hk9 hd.MX
  have hP : va_P D vwCl (wX a cI N pb S sb q w o wy ro t fo tr be u) H1 := hP1
  clear hP1 hk9
  refine lv_aload_n hx hb dL_law_948 rfl (lv_at hl 2 rfl) ?_
  refine lw_arg hx hb hX hbl hbA hS hl hL 1 (by omega) (by decide +kernel) dL_law_949 dL_law_950 dL_law_951 dL_law_952 dL_law_953 ?_
  refine lw_arg hx hb hX hbl hbA hS hl hL 2 (by omega) (by decide +kernel) dL_law_954 dL_law_955 dL_law_956 dL_law_957 dL_law_958 ?_
  refine lw_arg hx hb hX hbl hbA hS hl hL 3 (by omega) (by decide +kernel) dL_law_959 dL_law_960 dL_law_961 dL_law_962 dL_law_963 ?_
  refine mi_F (As := [.int (xs (i + 1)), .int (xs (i + 2)), .int (xs (i + 3))]) (rest := [.int r]) ⟨hx, hb, hml, hown, hts⟩ (c_X10_colour l D cI cZ am N hIN.1 S hIS.1 q o ho8 ro hIR.1 t hIT.1 fo hIF.1 k hIK.1 z  (xs (i + 1)) (xs (i + 2)) (xs (i + 3)) ) (cw_L_122 hts rfl rfl ⟨Nat.le_of_ble_eq_true rfl, Nat.le_of_ble_eq_true rfl⟩) hK hPM hd.M hS (ci := 10) rfl rfl rfl hl.1 rfl (Nat.le_of_ble_eq_true rfl) dL_law_964 ⟨Nat.le_of_ble_eq_true rfl, Nat.le_of_ble_eq_true rfl⟩ (fun r2 u2 H2 locs hp2 hP2 hk9 hS => ?_)
  have hP := P_kept hP hk9 hd.XM
  have hPM : va_P D vwCl (wM am cI cZ N S q o ro t fo u2 z) H2 := hP2
  clear hP2 hk9
  have hp : (r, u) = jXcolour k (xs (i + 1)) (xs (i + 2)) (xs (i + 3)) := hp
  have hp2 : (r2, u2) = mXcolour k (xs (i + 1)) (xs (i + 2)) (xs (i + 3)) := hp2
  have he : mXcolour k (xs (i + 1)) (xs (i + 2)) (xs (i + 3)) = jXcolour k (xs (i + 1)) (xs (i + 2)) (xs (i + 3)) := e_colour hIK.1
  rw [he, ← hp] at hp2
  obtain ⟨e1, e2⟩ : r2 = r ∧ u2 = u := Prod.mk.inj hp2
  have hpp := p_colour (x := (xs (i + 1))) (y := (xs (i + 2))) (v := (xs (i + 3))) hIK
  rw [← hp] at hpp
  rw [e2] at hPM
  refine lv_icmp_eq (tgt := 1048) hx hb dL_law_967 (by decide) (fun _ => ?_) (fun z9 => absurd e1.symm z9)
  exact nx N pb S sb q w o wy ro t zf fo tr be u z H2 locs ls ⟨hIN, hIS, hIQ, hw, ho8, hIR, hIT, hIF, hpp⟩ hP hPM hS hl
set_option maxHeartbeats 4000000 in
set_option maxRecDepth 100000 in
theorem lw_c26 {p : Program} {l : Launch} {e : Env} {s : State} {m : MethodId} {below : List Frame} {meth : Method} {c : Code} {b L : Nat} {xs : Nat → Int32} {D : va_G} {cI cZ : ClassId} {a am : Nat → Nat} {i : Nat} (hc : lw_C p s m meth c b L xs D cI cZ) (hd : lw_D (fun q : Nat => s.heap.size ≤ q) a am cI cZ) (hi : i + 7 ≤ L) (nx : lw_N p l e s m below meth c b D cI cZ a am i 1048) : lw_N p l e s m below meth c b D cI cZ a am i 972 := by
  intro N pb S sb q w o wy ro t zf fo tr be k z H locs ls hI hP hPM hS hl
  obtain ⟨hx, hb, hml, hown, hts, hX, hbl, hL, hK⟩ := hc
  obtain ⟨hIN, hIS, hIQ, hw, ho8, hIR, hIT, hIF, hIK⟩ := hI
  have hbA : ¬ (fun q : Nat => s.heap.size ≤ q) b := Nat.not_le.mpr hbl
  refine lv_aload_n hx hb dL_law_972 rfl (lv_at hl 1 rfl) ?_
  refine lw_arg hx hb hX hbl hbA hS hl hL 1 (by omega) (by decide +kernel) dL_law_973 dL_law_974 dL_law_975 dL_law_976 dL_law_977 ?_
  refine lw_arg hx hb hX hbl hbA hS hl hL 2 (by omega) (by decide +kernel) dL_law_978 dL_law_979 dL_law_980 dL_law_981 dL_law_982 ?_
  refine lw_arg hx hb hX hbl hbA hS hl hL 3 (by omega) (by decide +kernel) dL_law_983 dL_law_984 dL_law_985 dL_law_986 dL_law_987 ?_
  refine lw_arg hx hb hX hbl hbA hS hl hL 4 (by omega) (by decide +kernel) dL_law_988 dL_law_989 dL_law_990 dL_law_991 dL_law_992 ?_
  refine ro_V (As := [.int (xs (i + 1)), .int (xs (i + 2)), .int (xs (i + 3)), .int (xs (i + 4))]) (rest := []) ⟨hx, hb, hml, hown, hts⟩ (c_X9_whose l D cI cZ a N pb hIN.1 S sb q hIS.1 w hw o wy ho8 ro hIR.1 t hIT.1 zf hIT.2.1 fo tr be hIF.1 k hIK.1 (xs (i + 1)) (xs (i + 2)) (xs (i + 3)) (xs (i + 4))) (cw_L_123 hts rfl rfl ⟨Nat.le_of_ble_eq_true rfl, Nat.le_of_ble_eq_true rfl⟩) hK hP (ci := 9) rfl rfl rfl hl.1 rfl (Nat.le_of_ble_eq_true rfl) dL_law_993 ⟨Nat.le_of_ble_eq_true rfl, Nat.le_of_ble_eq_true rfl⟩ ?_
  refine lv_aload_n hx hb dL_law_996 rfl (lv_at hl 2 rfl) ?_
  refine lw_arg hx hb hX hbl hbA hS hl hL 1 (by omega) (by decide +kernel) dL_law_997 dL_law_998 dL_law_999 dL_law_1000 dL_law_1001 ?_
  refine lw_arg hx hb hX hbl hbA hS hl hL 2 (by omega) (by decide +kernel) dL_law_1002 dL_law_1003 dL_law_1004 dL_law_1005 dL_law_1006 ?_
  refine lw_arg hx hb hX hbl hbA hS hl hL 3 (by omega) (by decide +kernel) dL_law_1007 dL_law_1008 dL_law_1009 dL_law_1010 dL_law_1011 ?_
  refine lw_arg hx hb hX hbl hbA hS hl hL 4 (by omega) (by decide +kernel) dL_law_1012 dL_law_1013 dL_law_1014 dL_law_1015 dL_law_1016 ?_
  refine ro_V (As := [.int (xs (i + 1)), .int (xs (i + 2)), .int (xs (i + 3)), .int (xs (i + 4))]) (rest := [.int _]) ⟨hx, hb, hml, hown, hts⟩ (c_X10_whose l D cI cZ am N hIN.1 S hIS.1 q o ho8 ro hIR.1 t hIT.1 fo hIF.1 k hIK.1 z  (xs (i + 1)) (xs (i + 2)) (xs (i + 3)) (xs (i + 4)) ) (cw_L_127 hts rfl rfl ⟨Nat.le_of_ble_eq_true rfl, Nat.le_of_ble_eq_true rfl⟩) hK hPM (ci := 10) rfl rfl rfl hl.1 rfl (Nat.le_of_ble_eq_true rfl) dL_law_1017 ⟨Nat.le_of_ble_eq_true rfl, Nat.le_of_ble_eq_true rfl⟩ ?_
  refine lv_icmp_eq (tgt := 1048) hx hb dL_law_1020 (by decide) (fun _ => ?_) (fun z9 => absurd (e_whose hIN.1 hIK.2 hIK.1).symm z9)
  exact nx N pb S sb q w o wy ro t zf fo tr be k z H locs ls ⟨hIN, hIS, hIQ, hw, ho8, hIR, hIT, hIF, hIK⟩ hP hPM hS hl
set_option maxHeartbeats 4000000 in
set_option maxRecDepth 100000 in
theorem lw_c27 {p : Program} {l : Launch} {e : Env} {s : State} {m : MethodId} {below : List Frame} {meth : Method} {c : Code} {b L : Nat} {xs : Nat → Int32} {D : va_G} {cI cZ : ClassId} {a am : Nat → Nat} {i : Nat} (hc : lw_C p s m meth c b L xs D cI cZ) (hd : lw_D (fun q : Nat => s.heap.size ≤ q) a am cI cZ) (hi : i + 7 ≤ L) (nx : lw_N p l e s m below meth c b D cI cZ a am i 1048) : lw_N p l e s m below meth c b D cI cZ a am i 1025 := by
  intro N pb S sb q w o wy ro t zf fo tr be k z H locs ls hI hP hPM hS hl
  obtain ⟨hx, hb, hml, hown, hts, hX, hbl, hL, hK⟩ := hc
  obtain ⟨hIN, hIS, hIQ, hw, ho8, hIR, hIT, hIF, hIK⟩ := hI
  have hbA : ¬ (fun q : Nat => s.heap.size ≤ q) b := Nat.not_le.mpr hbl
  refine lv_aload_n hx hb dL_law_1025 rfl (lv_at hl 1 rfl) ?_
  refine lw_arg hx hb hX hbl hbA hS hl hL 1 (by omega) (by decide +kernel) dL_law_1026 dL_law_1027 dL_law_1028 dL_law_1029 dL_law_1030 ?_
  refine ro_V (As := [.int (xs (i + 1))]) (rest := []) ⟨hx, hb, hml, hown, hts⟩ (c_X9_count l D cI cZ a N pb hIN.1 S sb q hIS.1 w hw o wy ho8 ro hIR.1 t hIT.1 zf hIT.2.1 fo tr be hIF.1 k hIK.1 (xs (i + 1))) (cw_L_128 hts rfl rfl ⟨Nat.le_of_ble_eq_true rfl, Nat.le_of_ble_eq_true rfl⟩) hK hP (ci := 9) rfl rfl rfl hl.1 rfl (Nat.le_of_ble_eq_true rfl) dL_law_1031 ⟨Nat.le_of_ble_eq_true rfl, Nat.le_of_ble_eq_true rfl⟩ ?_
  refine lv_aload_n hx hb dL_law_1034 rfl (lv_at hl 2 rfl) ?_
  refine lw_arg hx hb hX hbl hbA hS hl hL 1 (by omega) (by decide +kernel) dL_law_1035 dL_law_1036 dL_law_1037 dL_law_1038 dL_law_1039 ?_
  refine ro_V (As := [.int (xs (i + 1))]) (rest := [.int _]) ⟨hx, hb, hml, hown, hts⟩ (c_X10_count l D cI cZ am N hIN.1 S hIS.1 q o ho8 ro hIR.1 t hIT.1 fo hIF.1 k hIK.1 z  (xs (i + 1)) ) (cw_L_131 hts rfl rfl ⟨Nat.le_of_ble_eq_true rfl, Nat.le_of_ble_eq_true rfl⟩) hK hPM (ci := 10) rfl rfl rfl hl.1 rfl (Nat.le_of_ble_eq_true rfl) dL_law_1040 ⟨Nat.le_of_ble_eq_true rfl, Nat.le_of_ble_eq_true rfl⟩ ?_
  refine lv_icmp_eq (tgt := 1048) hx hb dL_law_1043 (by decide) (fun _ => ?_) (fun z9 => absurd (e_count hIS.1).symm z9)
  exact nx N pb S sb q w o wy ro t zf fo tr be k z H locs ls ⟨hIN, hIS, hIQ, hw, ho8, hIR, hIT, hIF, hIK⟩ hP hPM hS hl
