def jXweather (q : TQ) (x : Int32) : Int32 × TQ := if 0 ≤ x ∧ x ≤ 2 then (q.2.1, (q.1, x, q.2.2)) else (-3, q)
set_option maxHeartbeats 4000000 in
set_option maxRecDepth 100000 in
theorem c_X9_weather (l : Launch) (D : va_G) (cI cZ : ClassId) (a : Nat → Nat) (N : TN) (pb : Nat → Int32) (hN16 : N_n N ≤ 16) (S : TS) (sb : Nat → Int32) (q : TQ) (hS24 : S_n S ≤ 24) (w : Nat × (Nat → Int32) × Int32 × Int32) (hw : w.1 ≤ 31) (o : TO) (wy : Nat → Int32) (ho8 : o.1 ≤ 8) (ro : TR) (hr10 : ro.1 ≤ 10) (t : TT) (ht6 : t.1 ≤ 6) (zf : Nat → Nat) (hzf : ∀ i, i < t.1 → t.2.2.1 i = nI (zf i) ∧ zf i ≤ 6) (fo : TF) (tr be : Nat → Int32) (hf5 : fo.1 ≤ 5) (k : TC) (hk8 : k.2.1 ≤ 8) (x : Int32) : MI l D cI cZ yX9_weather wyX9_weather ({ frames := 1, cells := 0, slots := 0, locals := 22 } : Room) [.ref (a 0), .int x] (wX a cI N pb S sb q w o wy ro t fo tr be k) (fun r u => (r, u) = jXweather q x) (fun (u : TQ) => wX a cI N pb S sb u w o wy ro t fo tr be k) := by
  refine Met.ofW (cc := cX9_weather) (maxL := 2) (ret := (some .int)) (by decide) rfl ?_
  intro p e s m args below meth c s₁ B hml hv
  obtain ⟨rfl, hK, hP, hD0⟩ := hv
  have hx := B.exec
  have hb := B.bytes
  have hr := B.returns
  have hts0 := atoms_spec (ws := wyX9_weather) B.pre
  have hts : ∀ w ∈ big, w.before _ s = true := fun w h => hts0 w (List.mem_cons_of_mem _ h)
  have hown : s.vm.findClass RX9 = some m.cls := findClass_of_methodNamed B.named
  have hlocks := B.notSynchronized
  have hD := D_inW hD0
  have hS : va_S (inW (wX a cI N pb S sb q w o wy ro t fo tr be k)) s.heap s.heap [] := va_S.rf
  have hl := lv_entry ([.ref (a 0), .int x]) (n := 2) (Nat.le_of_ble_eq_true rfl)
  rw [lg_entry_eq]
  generalize (lg_sl ([.ref (a 0), .int x]) ++ List.replicate (2 - (lg_sl ([.ref (a 0), .int x])).length) Slot.unset).toArray = ls at hl ⊢
  have hl : lv_has ls 2 [(0, .ref (a 0)), (1, .int x)] := hl
  refine lv_iload_n hx hb dX9_weather_0 rfl (lv_at hl 1 rfl) ?_
  refine lv_iconst (v := 0) hx hb dX9_weather_1 (by decide) ?_
  refine lv_iconst (v := 2) hx hb dX9_weather_2 (by decide) ?_
  refine ro_S (As := [.int x, .int 0, .int 2]) (rest := []) ⟨hx, hb, hml, hown, hts⟩ (c_X9_isWithin l D cI cZ  x 0 2) (cw_X9_77 hts rfl rfl ⟨Nat.le_of_ble_eq_true rfl, Nat.le_of_ble_eq_true rfl⟩) hK P_nil rfl hl.1 rfl (Nat.le_of_ble_eq_true rfl) dX9_weather_3 ⟨Nat.zero_le _, Nat.zero_le _⟩ ?_
  refine lv_if_eq (tgt := 20) hx hb dX9_weather_6 (by decide) (fun c_1 => ?_) (fun c_1 => ?_)
  · skip
    have c_1 := zb_eq0 c_1
    refine lv_bipush (v := (-3)) hx hb dX9_weather_20 (by decide) ?_
    exact mu_iret (v := (-3)) hx hb hr hlocks (q) (by show (((-3) : Int32), q) = jXweather q x; unfold jXweather; (first | rw [if_pos c_1] | rw [if_neg c_1] | skip)) (hP) hS dX9_weather_22
  · skip
    have c_1 := zb_ne0 c_1
    refine lv_aload_n hx hb dX9_weather_9 rfl (lv_at hl 0 rfl) ?_
    refine va_get (D := D) (ci := 9) (v := .ref (a 10)) (C := RX9) (T := TX9) (N := 8) hx hb hts hin9 hown hK.1 hP 0 rfl rfl 1 (by decide) (hts _ fl_X9_21) (fun _ h9 => h9) rfl dX9_weather_10 ?_
    refine lv_iload_n hx hb dX9_weather_13 rfl (lv_at hl 1 rfl) ?_
    refine mi_F (As := [.int x]) (rest := []) ⟨hx, hb, hml, hown, hts⟩ (c_X6_changeWeather l D cI cZ a S sb q hS24 x) (cw_X9_93 hts rfl rfl ⟨Nat.le_of_ble_eq_true rfl, Nat.le_of_ble_eq_true rfl⟩) hK (wP_sg hP) (wD_sg hD) hS (ci := 6) rfl rfl rfl hl.1 rfl (Nat.le_of_ble_eq_true rfl) dX9_weather_14 ⟨Nat.zero_le _, Nat.zero_le _⟩ (fun r u H1 locs hp hP1 hk9 hS => ?_)
    obtain ⟨hP, hD⟩ := fX_sg hP hD (show va_P D vwCl (wSg a cI S sb (q.1, x, q.2.2)) H1 from hP1) hk9
    clear hP1 hk9
    generalize H1 = H at hP hS ⊢
    have hp : r = q.2.1 := hp
    subst hp
    refine lv_goto (tgt := 22) hx hb dX9_weather_17 (by decide) ?_
    exact mu_iret (v := q.2.1) hx hb hr hlocks ((q.1, x, q.2.2)) (by show ((q.2.1 : Int32), (q.1, x, q.2.2)) = jXweather q x; unfold jXweather; (first | rw [if_pos c_1] | rw [if_neg c_1] | skip)) (hP) hS dX9_weather_22

def jXdays (S : TS) (q : TQ) (x : Int32) : Int32 × TS × TQ := if 1 ≤ x ∧ x ≤ 30 then if 400 < q.1 + x then (-3, S, q) else (q.1 + x, jSf S (jLv S q x (S_n S)), (q.1 + x, q.2.1, q.2.2)) else (-3, S, q)
set_option maxHeartbeats 4000000 in
set_option maxRecDepth 100000 in
theorem c_X9_days (l : Launch) (D : va_G) (cI cZ : ClassId) (a : Nat → Nat) (N : TN) (pb : Nat → Int32) (hN16 : N_n N ≤ 16) (S : TS) (sb : Nat → Int32) (q : TQ) (hS24 : S_n S ≤ 24) (w : Nat × (Nat → Int32) × Int32 × Int32) (hw : w.1 ≤ 31) (o : TO) (wy : Nat → Int32) (ho8 : o.1 ≤ 8) (ro : TR) (hr10 : ro.1 ≤ 10) (t : TT) (ht6 : t.1 ≤ 6) (zf : Nat → Nat) (hzf : ∀ i, i < t.1 → t.2.2.1 i = nI (zf i) ∧ zf i ≤ 6) (fo : TF) (tr be : Nat → Int32) (hf5 : fo.1 ≤ 5) (k : TC) (hk8 : k.2.1 ≤ 8) (x : Int32) : MI l D cI cZ yX9_days wyX9_days ({ frames := 3, cells := 0, slots := 0, locals := 65 } : Room) [.ref (a 0), .int x] (wX a cI N pb S sb q w o wy ro t fo tr be k) (fun r u => (r, u) = jXdays S q x) (fun (u : TS × TQ) => wX a cI N pb u.1 sb u.2 w o wy ro t fo tr be k) := by
  refine Met.ofW (cc := cX9_days) (maxL := 2) (ret := (some .int)) (by decide) rfl ?_
  intro p e s m args below meth c s₁ B hml hv
  obtain ⟨rfl, hK, hP, hD0⟩ := hv
  have hx := B.exec
  have hb := B.bytes
  have hr := B.returns
  have hts0 := atoms_spec (ws := wyX9_days) B.pre
  have hts : ∀ w ∈ big, w.before _ s = true := fun w h => hts0 w (List.mem_cons_of_mem _ h)
  have hown : s.vm.findClass RX9 = some m.cls := findClass_of_methodNamed B.named
  have hlocks := B.notSynchronized
  have hD := D_inW hD0
  have hS : va_S (inW (wX a cI N pb S sb q w o wy ro t fo tr be k)) s.heap s.heap [] := va_S.rf
  have hl := lv_entry ([.ref (a 0), .int x]) (n := 2) (Nat.le_of_ble_eq_true rfl)
  rw [lg_entry_eq]
  generalize (lg_sl ([.ref (a 0), .int x]) ++ List.replicate (2 - (lg_sl ([.ref (a 0), .int x])).length) Slot.unset).toArray = ls at hl ⊢
  have hl : lv_has ls 2 [(0, .ref (a 0)), (1, .int x)] := hl
  refine lv_iload_n hx hb dX9_days_0 rfl (lv_at hl 1 rfl) ?_
  refine lv_iconst (v := 1) hx hb dX9_days_1 (by decide) ?_
  refine lv_bipush (v := 30) hx hb dX9_days_2 (by decide) ?_
  refine ro_S (As := [.int x, .int 1, .int 30]) (rest := []) ⟨hx, hb, hml, hown, hts⟩ (c_X9_isWithin l D cI cZ  x 1 30) (cw_X9_77 hts rfl rfl ⟨Nat.le_of_ble_eq_true rfl, Nat.le_of_ble_eq_true rfl⟩) hK P_nil rfl hl.1 rfl (Nat.le_of_ble_eq_true rfl) dX9_days_4 ⟨Nat.zero_le _, Nat.zero_le _⟩ ?_
  refine lv_if_eq (tgt := 25) hx hb dX9_days_7 (by decide) (fun c_1 => ?_) (fun c_1 => ?_)
  · skip
    have c_1 := zb_eq0 c_1
    refine lv_bipush (v := (-3)) hx hb dX9_days_25 (by decide) ?_
    exact mu_iret (v := (-3)) hx hb hr hlocks ((S, q)) (by show (((-3) : Int32), (S, q)) = jXdays S q x; unfold jXdays; (first | rw [if_pos c_1] | rw [if_neg c_1] | skip)) (hP) hS dX9_days_27
  · skip
    have c_1 := zb_ne0 c_1
    refine lv_aload_n hx hb dX9_days_10 rfl (lv_at hl 0 rfl) ?_
    refine va_get (D := D) (ci := 9) (v := .ref (a 10)) (C := RX9) (T := TX9) (N := 8) hx hb hts hin9 hown hK.1 hP 0 rfl rfl 1 (by decide) (hts _ fl_X9_21) (fun _ h9 => h9) rfl dX9_days_11 ?_
    refine ro_V (As := []) (rest := []) ⟨hx, hb, hml, hown, hts⟩ (c_X6_today l D cI cZ a S sb q hS24) (cw_X9_97 hts rfl rfl ⟨Nat.le_of_ble_eq_true rfl, Nat.le_of_ble_eq_true rfl⟩) hK (wP_sg hP) (ci := 6) rfl rfl rfl hl.1 rfl (Nat.le_of_ble_eq_true rfl) dX9_days_14 ⟨Nat.zero_le _, Nat.zero_le _⟩ ?_
    refine lv_iload_n hx hb dX9_days_17 rfl (lv_at hl 1 rfl) ?_
    refine lv_iadd hx hb dX9_days_18 ?_
    refine lv_sipush (v := 400) hx hb dX9_days_19 (by decide) ?_
    refine lv_icmp_le (tgt := 28) hx hb dX9_days_22 (by decide) (fun c_2 => ?_) (fun c_2 => ?_)
    · skip
      have c_2 := Int32.not_lt.mpr c_2
      refine lv_aload_n hx hb dX9_days_28 rfl (lv_at hl 0 rfl) ?_
      refine va_get (D := D) (ci := 9) (v := .ref (a 10)) (C := RX9) (T := TX9) (N := 8) hx hb hts hin9 hown hK.1 hP 0 rfl rfl 1 (by decide) (hts _ fl_X9_21) (fun _ h9 => h9) rfl dX9_days_29 ?_
      refine lv_iload_n hx hb dX9_days_32 rfl (lv_at hl 1 rfl) ?_
      refine mi_F (As := [.int x]) (rest := []) ⟨hx, hb, hml, hown, hts⟩ (c_X6_letDaysGoBy l D cI cZ a S sb q hS24 x) (cw_X9_100 hts rfl rfl ⟨Nat.le_of_ble_eq_true rfl, Nat.le_of_ble_eq_true rfl⟩) hK (wP_sg hP) (wD_sg hD) hS (ci := 6) rfl rfl rfl hl.1 rfl (Nat.le_of_ble_eq_true rfl) dX9_days_33 ⟨Nat.zero_le _, Nat.zero_le _⟩ (fun r u H1 locs hp hP1 hk9 hS => ?_)
      obtain ⟨hP, hD⟩ := fX_sg hP hD (show va_P D vwCl (wSg a cI (jSf S (jLv S q x (S_n S))) sb (q.1 + x, q.2.1, q.2.2)) H1 from hP1) hk9
      clear hP1 hk9
      generalize H1 = H at hP hS ⊢
      have hp : r = q.1 + x := hp
      subst hp
      exact mu_iret (v := (q.1 + x)) hx hb hr hlocks ((jSf S (jLv S q x (S_n S)), (q.1 + x, q.2.1, q.2.2))) (by show (((q.1 + x) : Int32), (jSf S (jLv S q x (S_n S)), (q.1 + x, q.2.1, q.2.2))) = jXdays S q x; unfold jXdays; (first | rw [if_pos c_1] | rw [if_neg c_1] | skip); (first | rw [if_pos c_2] | rw [if_neg c_2] | skip)) (hP) hS dX9_days_36
    · skip
      have c_2 := Int32.not_le.mp c_2
      refine lv_bipush (v := (-3)) hx hb dX9_days_25 (by decide) ?_
      exact mu_iret (v := (-3)) hx hb hr hlocks ((S, q)) (by show (((-3) : Int32), (S, q)) = jXdays S q x; unfold jXdays; (first | rw [if_pos c_1] | rw [if_neg c_1] | skip); (first | rw [if_pos c_2] | rw [if_neg c_2] | skip)) (hP) hS dX9_days_27

def jXsign (S : TS) (sb : Nat → Int32) (q : TQ) (pb : Nat → Int32) (y1 y2 y3 y4 y5 y6 : Int32) : Int32 × TS × (Nat → Int32) :=
  if 0 ≤ y1 ∧ y1 ≤ 9 then if (y2 = 0 ∨ y2 = 1) ∧ ¬ jTo pb y3 y1 = true then (-2, S, sb) else if jSv y2 y3 = true then if 1 ≤ y4 ∧ y4 ≤ 60 then if (y5 &&& (zPb pb y1 ^^^ (-1))) = 0 then if nI (S_n S) < 24 then (nI (S_n S), (jLay S q y1 y2 y3 y4 y5 y6), (upd sb (S_n S) (if y6 = 0 then y5 else y5 ||| 65536))) else (-5, S, sb) else (-3, S, sb) else (-3, S, sb) else (-3, S, sb) else (-2, S, sb)
set_option maxHeartbeats 4000000 in
set_option maxRecDepth 100000 in
theorem c_X9_sign (l : Launch) (D : va_G) (cI cZ : ClassId) (a : Nat → Nat) (N : TN) (pb : Nat → Int32) (hN16 : N_n N ≤ 16) (S : TS) (sb : Nat → Int32) (q : TQ) (hS24 : S_n S ≤ 24) (w : Nat × (Nat → Int32) × Int32 × Int32) (hw : w.1 ≤ 31) (o : TO) (wy : Nat → Int32) (ho8 : o.1 ≤ 8) (ro : TR) (hr10 : ro.1 ≤ 10) (t : TT) (ht6 : t.1 ≤ 6) (zf : Nat → Nat) (hzf : ∀ i, i < t.1 → t.2.2.1 i = nI (zf i) ∧ zf i ≤ 6) (fo : TF) (tr be : Nat → Int32) (hf5 : fo.1 ≤ 5) (k : TC) (hk8 : k.2.1 ≤ 8) (y1 y2 y3 y4 y5 y6 : Int32) : MI l D cI cZ yX9_sign wyX9_sign ({ frames := 4, cells := 0, slots := 0, locals := 85 } : Room) [.ref (a 0), .int y1, .int y2, .int y3, .int y4, .int y5, .int y6] (wX a cI N pb S sb q w o wy ro t fo tr be k) (fun r u => (r, u) = jXsign S sb q pb y1 y2 y3 y4 y5 y6) (fun (u : TS × (Nat → Int32)) => wX a cI N pb u.1 u.2 q w o wy ro t fo tr be k) := by
  refine Met.ofW (cc := cX9_sign) (maxL := 7) (ret := (some .int)) (by decide) rfl ?_
  intro p e s m args below meth c s₁ B hml hv
  obtain ⟨rfl, hK, hP, hD0⟩ := hv
  have hx := B.exec
  have hb := B.bytes
  have hr := B.returns
  have hts0 := atoms_spec (ws := wyX9_sign) B.pre
  have hts : ∀ w ∈ big, w.before _ s = true := fun w h => hts0 w (List.mem_cons_of_mem _ h)
  have hown : s.vm.findClass RX9 = some m.cls := findClass_of_methodNamed B.named
  have hlocks := B.notSynchronized
  have hD := D_inW hD0
  have hS : va_S (inW (wX a cI N pb S sb q w o wy ro t fo tr be k)) s.heap s.heap [] := va_S.rf
  have hl := lv_entry ([.ref (a 0), .int y1, .int y2, .int y3, .int y4, .int y5, .int y6]) (n := 7) (Nat.le_of_ble_eq_true rfl)
  rw [lg_entry_eq]
  generalize (lg_sl ([.ref (a 0), .int y1, .int y2, .int y3, .int y4, .int y5, .int y6]) ++ List.replicate (7 - (lg_sl ([.ref (a 0), .int y1, .int y2, .int y3, .int y4, .int y5, .int y6])).length) Slot.unset).toArray = ls at hl ⊢
  have hl : lv_has ls 7 [(0, .ref (a 0)), (1, .int y1), (2, .int y2), (3, .int y3), (4, .int y4), (5, .int y5), (6, .int y6)] := hl
  refine lv_iload_n hx hb dX9_sign_0 rfl (lv_at hl 1 rfl) ?_
  refine ro_S (As := [.int y1]) (rest := []) ⟨hx, hb, hml, hown, hts⟩ (c_X9_isPlace l D cI cZ  y1) (cw_X9_73 hts rfl rfl ⟨Nat.le_of_ble_eq_true rfl, Nat.le_of_ble_eq_true rfl⟩) hK P_nil rfl hl.1 rfl (Nat.le_of_ble_eq_true rfl) dX9_sign_1 ⟨Nat.zero_le _, Nat.zero_le _⟩ ?_
  refine lv_if_eq (tgt := 26) hx hb dX9_sign_4 (by decide) (fun c_1 => ?_) (fun c_1 => ?_)
  · skip
    have c_1 := zb_eq0 c_1
    refine lv_bipush (v := (-2)) hx hb dX9_sign_26 (by decide) ?_
    exact mu_iret (v := (-2)) hx hb hr hlocks ((S, sb)) (by show (((-2) : Int32), (S, sb)) = jXsign S sb q pb y1 y2 y3 y4 y5 y6; unfold jXsign; (first | rw [if_pos c_1] | rw [if_neg c_1] | skip)) (hP) hS dX9_sign_28
  · skip
    have c_1 := zb_ne0 c_1
    refine lv_iload_n hx hb dX9_sign_7 rfl (lv_at hl 2 rfl) ?_
    refine ro_S (As := [.int y2]) (rest := []) ⟨hx, hb, hml, hown, hts⟩ (c_X9_isOfPath l D cI cZ  y2) (cw_X9_103 hts rfl rfl ⟨Nat.le_of_ble_eq_true rfl, Nat.le_of_ble_eq_true rfl⟩) hK P_nil rfl hl.1 rfl (Nat.le_of_ble_eq_true rfl) dX9_sign_8 ⟨Nat.zero_le _, Nat.zero_le _⟩ ?_
    refine lv_if_eq (tgt := 29) hx hb dX9_sign_11 (by decide) (fun c_2 => ?_) (fun c_2 => ?_)
    · skip
      have c_2 := zb_eq0 c_2
      have c_2 : ¬ ((y2 = 0 ∨ y2 = 1) ∧ ¬ jTo pb y3 y1 = true) := fun z9 => c_2 z9.1
      refine lv_iload_n hx hb dX9_sign_29 rfl (lv_at hl 2 rfl) ?_
      refine lv_iload_n hx hb dX9_sign_30 rfl (lv_at hl 3 rfl) ?_
      refine ro_S (As := [.int y2, .int y3]) (rest := []) ⟨hx, hb, hml, hown, hts⟩ (c_X9_isSignValue l D cI cZ  y2 y3) (cw_X9_110 hts rfl rfl ⟨Nat.le_of_ble_eq_true rfl, Nat.le_of_ble_eq_true rfl⟩) hK P_nil rfl hl.1 rfl (Nat.le_of_ble_eq_true rfl) dX9_sign_31 ⟨Nat.zero_le _, Nat.zero_le _⟩ ?_
      refine lv_if_eq (tgt := 64) hx hb dX9_sign_34 (by decide) (fun c_3 => ?_) (fun c_3 => ?_)
      · skip
        have c_3 := zb_eq0 c_3
        refine lv_bipush (v := (-3)) hx hb dX9_sign_64 (by decide) ?_
        exact mu_iret (v := (-3)) hx hb hr hlocks ((S, sb)) (by show (((-3) : Int32), (S, sb)) = jXsign S sb q pb y1 y2 y3 y4 y5 y6; unfold jXsign; (first | rw [if_pos c_1] | rw [if_neg c_1] | skip); (first | rw [if_pos c_2] | rw [if_neg c_2] | skip); (first | rw [if_pos c_3] | rw [if_neg c_3] | skip)) (hP) hS dX9_sign_66
      · skip
        have c_3 := zb_ne0 c_3
        refine lv_iload hx hb dX9_sign_37 (lv_at hl 4 rfl) ?_
        refine lv_iconst (v := 1) hx hb dX9_sign_39 (by decide) ?_
        refine lv_bipush (v := 60) hx hb dX9_sign_40 (by decide) ?_
        refine ro_S (As := [.int y4, .int 1, .int 60]) (rest := []) ⟨hx, hb, hml, hown, hts⟩ (c_X9_isWithin l D cI cZ  y4 1 60) (cw_X9_77 hts rfl rfl ⟨Nat.le_of_ble_eq_true rfl, Nat.le_of_ble_eq_true rfl⟩) hK P_nil rfl hl.1 rfl (Nat.le_of_ble_eq_true rfl) dX9_sign_42 ⟨Nat.zero_le _, Nat.zero_le _⟩ ?_
        refine lv_if_eq (tgt := 64) hx hb dX9_sign_45 (by decide) (fun c_4 => ?_) (fun c_4 => ?_)
        · skip
          have c_4 := zb_eq0 c_4
          refine lv_bipush (v := (-3)) hx hb dX9_sign_64 (by decide) ?_
          exact mu_iret (v := (-3)) hx hb hr hlocks ((S, sb)) (by show (((-3) : Int32), (S, sb)) = jXsign S sb q pb y1 y2 y3 y4 y5 y6; unfold jXsign; (first | rw [if_pos c_1] | rw [if_neg c_1] | skip); (first | rw [if_pos c_2] | rw [if_neg c_2] | skip); (first | rw [if_pos c_3] | rw [if_neg c_3] | skip); (first | rw [if_pos c_4] | rw [if_neg c_4] | skip)) (hP) hS dX9_sign_66
        · skip
          have c_4 := zb_ne0 c_4
          refine lv_iload hx hb dX9_sign_48 (lv_at hl 5 rfl) ?_
          refine lv_aload_n hx hb dX9_sign_50 rfl (lv_at hl 0 rfl) ?_
          refine va_get (D := D) (ci := 9) (v := .ref (a 1)) (C := RX9) (T := TX9) (N := 8) hx hb hts hin9 hown hK.1 hP 0 rfl rfl 0 (by decide) (hts _ fl_X9_10) (fun _ h9 => h9) rfl dX9_sign_51 ?_
          refine lv_iload_n hx hb dX9_sign_54 rfl (lv_at hl 1 rfl) ?_
          refine ro_V (As := [.int y1]) (rest := [.int y5]) ⟨hx, hb, hml, hown, hts⟩ (c_X2_pathsAt l D cI cZ a N pb hN16 y1) (cw_X9_113 hts rfl rfl ⟨Nat.le_of_ble_eq_true rfl, Nat.le_of_ble_eq_true rfl⟩) hK (wP_net hP) (ci := 2) rfl rfl rfl hl.1 rfl (Nat.le_of_ble_eq_true rfl) dX9_sign_55 ⟨Nat.zero_le _, Nat.zero_le _⟩ ?_
          refine lv_iconst (v := (-1)) hx hb dX9_sign_58 (by decide) ?_
          refine lv_ixor hx hb dX9_sign_59 ?_
          refine lv_iand hx hb dX9_sign_60 ?_
          refine lv_if_eq (tgt := 67) hx hb dX9_sign_61 (by decide) (fun c_5 => ?_) (fun c_5 => ?_)
          · skip
            refine lv_aload_n hx hb dX9_sign_67 rfl (lv_at hl 0 rfl) ?_
            refine va_get (D := D) (ci := 9) (v := .ref (a 10)) (C := RX9) (T := TX9) (N := 8) hx hb hts hin9 hown hK.1 hP 0 rfl rfl 1 (by decide) (hts _ fl_X9_21) (fun _ h9 => h9) rfl dX9_sign_68 ?_
            refine ro_V (As := []) (rest := []) ⟨hx, hb, hml, hown, hts⟩ (c_X6_signCount l D cI cZ a S sb q hS24) (cw_X9_116 hts rfl rfl ⟨Nat.le_of_ble_eq_true rfl, Nat.le_of_ble_eq_true rfl⟩) hK (wP_sg hP) (ci := 6) rfl rfl rfl hl.1 rfl (Nat.le_of_ble_eq_true rfl) dX9_sign_71 ⟨Nat.zero_le _, Nat.zero_le _⟩ ?_
            refine lv_bipush (v := 24) hx hb dX9_sign_74 (by decide) ?_
            refine lv_icmp_lt (tgt := 84) hx hb dX9_sign_76 (by decide) (fun c_6 => ?_) (fun c_6 => ?_)
            · skip
              have hb9 : S_n S < 24 := by have h9 := c_6; rw [show (24 : Int32) = nI 24 from rfl, nI_ltI (by omega) (by omega)] at h9; exact h9
              refine lv_aload_n hx hb dX9_sign_84 rfl (lv_at hl 0 rfl) ?_
              refine va_get (D := D) (ci := 9) (v := .ref (a 10)) (C := RX9) (T := TX9) (N := 8) hx hb hts hin9 hown hK.1 hP 0 rfl rfl 1 (by decide) (hts _ fl_X9_21) (fun _ h9 => h9) rfl dX9_sign_85 ?_
              refine lv_iload_n hx hb dX9_sign_88 rfl (lv_at hl 1 rfl) ?_
              refine lv_iload_n hx hb dX9_sign_89 rfl (lv_at hl 2 rfl) ?_
              refine lv_iload_n hx hb dX9_sign_90 rfl (lv_at hl 3 rfl) ?_
              refine lv_iload hx hb dX9_sign_91 (lv_at hl 4 rfl) ?_
              refine lv_iload hx hb dX9_sign_93 (lv_at hl 5 rfl) ?_
              refine lv_iload hx hb dX9_sign_95 (lv_at hl 6 rfl) ?_
              refine mi_F (As := [.int y1, .int y2, .int y3, .int y4, .int y5, .int y6]) (rest := []) ⟨hx, hb, hml, hown, hts⟩ (c_X6_lay l D cI cZ a S sb q hb9 y1 y2 y3 y4 y5 y6) (cw_X9_119 hts rfl rfl ⟨Nat.le_of_ble_eq_true rfl, Nat.le_of_ble_eq_true rfl⟩) hK (wP_sg hP) (wD_sg hD) hS (ci := 6) rfl rfl rfl hl.1 rfl (Nat.le_of_ble_eq_true rfl) dX9_sign_97 ⟨Nat.zero_le _, Nat.zero_le _⟩ (fun r u H1 locs hp hP1 hk9 hS => ?_)
              obtain ⟨hP, hD⟩ := fX_sg hP hD (show va_P D vwCl (wSg a cI (jLay S q y1 y2 y3 y4 y5 y6) (upd sb (S_n S) (if y6 = 0 then y5 else y5 ||| 65536)) q) H1 from hP1) hk9
              clear hP1 hk9
              generalize H1 = H at hP hS ⊢
              have hp : r = nI (S_n S) := hp
              subst hp
              exact mu_iret (v := (nI (S_n S))) hx hb hr hlocks (((jLay S q y1 y2 y3 y4 y5 y6), (upd sb (S_n S) (if y6 = 0 then y5 else y5 ||| 65536)))) (by show (((nI (S_n S)) : Int32), ((jLay S q y1 y2 y3 y4 y5 y6), (upd sb (S_n S) (if y6 = 0 then y5 else y5 ||| 65536)))) = jXsign S sb q pb y1 y2 y3 y4 y5 y6; unfold jXsign; (first | rw [if_pos c_1] | rw [if_neg c_1] | skip); (first | rw [if_pos c_2] | rw [if_neg c_2] | skip); (first | rw [if_pos c_3] | rw [if_neg c_3] | skip); (first | rw [if_pos c_4] | rw [if_neg c_4] | skip); (first | rw [if_pos c_5] | rw [if_neg c_5] | skip); (first | rw [if_pos c_6] | rw [if_neg c_6] | skip)) (hP) hS dX9_sign_100
            · skip
              refine lv_bipush (v := (-5)) hx hb dX9_sign_79 (by decide) ?_
              refine lv_goto (tgt := 100) hx hb dX9_sign_81 (by decide) ?_
              exact mu_iret (v := (-5)) hx hb hr hlocks ((S, sb)) (by show (((-5) : Int32), (S, sb)) = jXsign S sb q pb y1 y2 y3 y4 y5 y6; unfold jXsign; (first | rw [if_pos c_1] | rw [if_neg c_1] | skip); (first | rw [if_pos c_2] | rw [if_neg c_2] | skip); (first | rw [if_pos c_3] | rw [if_neg c_3] | skip); (first | rw [if_pos c_4] | rw [if_neg c_4] | skip); (first | rw [if_pos c_5] | rw [if_neg c_5] | skip); (first | rw [if_pos c_6] | rw [if_neg c_6] | skip)) (hP) hS dX9_sign_100
          · skip
            refine lv_bipush (v := (-3)) hx hb dX9_sign_64 (by decide) ?_
            exact mu_iret (v := (-3)) hx hb hr hlocks ((S, sb)) (by show (((-3) : Int32), (S, sb)) = jXsign S sb q pb y1 y2 y3 y4 y5 y6; unfold jXsign; (first | rw [if_pos c_1] | rw [if_neg c_1] | skip); (first | rw [if_pos c_2] | rw [if_neg c_2] | skip); (first | rw [if_pos c_3] | rw [if_neg c_3] | skip); (first | rw [if_pos c_4] | rw [if_neg c_4] | skip); (first | rw [if_pos c_5] | rw [if_neg c_5] | skip)) (hP) hS dX9_sign_66
    · skip
      have c_2 := zb_ne0 c_2
      refine lv_aload_n hx hb dX9_sign_14 rfl (lv_at hl 0 rfl) ?_
      refine va_get (D := D) (ci := 9) (v := .ref (a 1)) (C := RX9) (T := TX9) (N := 8) hx hb hts hin9 hown hK.1 hP 0 rfl rfl 0 (by decide) (hts _ fl_X9_10) (fun _ h9 => h9) rfl dX9_sign_15 ?_
      refine lv_iload_n hx hb dX9_sign_18 rfl (lv_at hl 3 rfl) ?_
      refine lv_iload_n hx hb dX9_sign_19 rfl (lv_at hl 1 rfl) ?_
      refine ro_V (As := [.int y3, .int y1]) (rest := []) ⟨hx, hb, hml, hown, hts⟩ (c_X2_touches l D cI cZ a N pb hN16 y3 y1) (cw_X9_106 hts rfl rfl ⟨Nat.le_of_ble_eq_true rfl, Nat.le_of_ble_eq_true rfl⟩) hK (wP_net hP) (ci := 2) rfl rfl rfl hl.1 rfl (Nat.le_of_ble_eq_true rfl) dX9_sign_20 ⟨Nat.zero_le _, Nat.zero_le _⟩ ?_
      refine lv_if_ne (tgt := 29) hx hb dX9_sign_23 (by decide) (fun c_7 => ?_) (fun c_7 => ?_)
      · skip
        have c_7 := zb_ne0 c_7
        have c_7 : ¬ ((y2 = 0 ∨ y2 = 1) ∧ ¬ jTo pb y3 y1 = true) := fun z9 => z9.2 c_7
        refine lv_iload_n hx hb dX9_sign_29 rfl (lv_at hl 2 rfl) ?_
        refine lv_iload_n hx hb dX9_sign_30 rfl (lv_at hl 3 rfl) ?_
        refine ro_S (As := [.int y2, .int y3]) (rest := []) ⟨hx, hb, hml, hown, hts⟩ (c_X9_isSignValue l D cI cZ  y2 y3) (cw_X9_110 hts rfl rfl ⟨Nat.le_of_ble_eq_true rfl, Nat.le_of_ble_eq_true rfl⟩) hK P_nil rfl hl.1 rfl (Nat.le_of_ble_eq_true rfl) dX9_sign_31 ⟨Nat.zero_le _, Nat.zero_le _⟩ ?_
        refine lv_if_eq (tgt := 64) hx hb dX9_sign_34 (by decide) (fun c_8 => ?_) (fun c_8 => ?_)
        · skip
          have c_8 := zb_eq0 c_8
          refine lv_bipush (v := (-3)) hx hb dX9_sign_64 (by decide) ?_
          exact mu_iret (v := (-3)) hx hb hr hlocks ((S, sb)) (by show (((-3) : Int32), (S, sb)) = jXsign S sb q pb y1 y2 y3 y4 y5 y6; unfold jXsign; (first | rw [if_pos c_1] | rw [if_neg c_1] | skip); (first | rw [if_pos c_7] | rw [if_neg c_7] | skip); (first | rw [if_pos c_8] | rw [if_neg c_8] | skip)) (hP) hS dX9_sign_66
        · skip
          have c_8 := zb_ne0 c_8
          refine lv_iload hx hb dX9_sign_37 (lv_at hl 4 rfl) ?_
          refine lv_iconst (v := 1) hx hb dX9_sign_39 (by decide) ?_
          refine lv_bipush (v := 60) hx hb dX9_sign_40 (by decide) ?_
          refine ro_S (As := [.int y4, .int 1, .int 60]) (rest := []) ⟨hx, hb, hml, hown, hts⟩ (c_X9_isWithin l D cI cZ  y4 1 60) (cw_X9_77 hts rfl rfl ⟨Nat.le_of_ble_eq_true rfl, Nat.le_of_ble_eq_true rfl⟩) hK P_nil rfl hl.1 rfl (Nat.le_of_ble_eq_true rfl) dX9_sign_42 ⟨Nat.zero_le _, Nat.zero_le _⟩ ?_
          refine lv_if_eq (tgt := 64) hx hb dX9_sign_45 (by decide) (fun c_9 => ?_) (fun c_9 => ?_)
          · skip
            have c_9 := zb_eq0 c_9
            refine lv_bipush (v := (-3)) hx hb dX9_sign_64 (by decide) ?_
            exact mu_iret (v := (-3)) hx hb hr hlocks ((S, sb)) (by show (((-3) : Int32), (S, sb)) = jXsign S sb q pb y1 y2 y3 y4 y5 y6; unfold jXsign; (first | rw [if_pos c_1] | rw [if_neg c_1] | skip); (first | rw [if_pos c_7] | rw [if_neg c_7] | skip); (first | rw [if_pos c_8] | rw [if_neg c_8] | skip); (first | rw [if_pos c_9] | rw [if_neg c_9] | skip)) (hP) hS dX9_sign_66
          · skip
            have c_9 := zb_ne0 c_9
            refine lv_iload hx hb dX9_sign_48 (lv_at hl 5 rfl) ?_
            refine lv_aload_n hx hb dX9_sign_50 rfl (lv_at hl 0 rfl) ?_
            refine va_get (D := D) (ci := 9) (v := .ref (a 1)) (C := RX9) (T := TX9) (N := 8) hx hb hts hin9 hown hK.1 hP 0 rfl rfl 0 (by decide) (hts _ fl_X9_10) (fun _ h9 => h9) rfl dX9_sign_51 ?_
            refine lv_iload_n hx hb dX9_sign_54 rfl (lv_at hl 1 rfl) ?_
            refine ro_V (As := [.int y1]) (rest := [.int y5]) ⟨hx, hb, hml, hown, hts⟩ (c_X2_pathsAt l D cI cZ a N pb hN16 y1) (cw_X9_113 hts rfl rfl ⟨Nat.le_of_ble_eq_true rfl, Nat.le_of_ble_eq_true rfl⟩) hK (wP_net hP) (ci := 2) rfl rfl rfl hl.1 rfl (Nat.le_of_ble_eq_true rfl) dX9_sign_55 ⟨Nat.zero_le _, Nat.zero_le _⟩ ?_
            refine lv_iconst (v := (-1)) hx hb dX9_sign_58 (by decide) ?_
            refine lv_ixor hx hb dX9_sign_59 ?_
            refine lv_iand hx hb dX9_sign_60 ?_
            refine lv_if_eq (tgt := 67) hx hb dX9_sign_61 (by decide) (fun c_10 => ?_) (fun c_10 => ?_)
            · skip
              refine lv_aload_n hx hb dX9_sign_67 rfl (lv_at hl 0 rfl) ?_
              refine va_get (D := D) (ci := 9) (v := .ref (a 10)) (C := RX9) (T := TX9) (N := 8) hx hb hts hin9 hown hK.1 hP 0 rfl rfl 1 (by decide) (hts _ fl_X9_21) (fun _ h9 => h9) rfl dX9_sign_68 ?_
              refine ro_V (As := []) (rest := []) ⟨hx, hb, hml, hown, hts⟩ (c_X6_signCount l D cI cZ a S sb q hS24) (cw_X9_116 hts rfl rfl ⟨Nat.le_of_ble_eq_true rfl, Nat.le_of_ble_eq_true rfl⟩) hK (wP_sg hP) (ci := 6) rfl rfl rfl hl.1 rfl (Nat.le_of_ble_eq_true rfl) dX9_sign_71 ⟨Nat.zero_le _, Nat.zero_le _⟩ ?_
              refine lv_bipush (v := 24) hx hb dX9_sign_74 (by decide) ?_
              refine lv_icmp_lt (tgt := 84) hx hb dX9_sign_76 (by decide) (fun c_11 => ?_) (fun c_11 => ?_)
              · skip
                have hb9 : S_n S < 24 := by have h9 := c_11; rw [show (24 : Int32) = nI 24 from rfl, nI_ltI (by omega) (by omega)] at h9; exact h9
                refine lv_aload_n hx hb dX9_sign_84 rfl (lv_at hl 0 rfl) ?_
                refine va_get (D := D) (ci := 9) (v := .ref (a 10)) (C := RX9) (T := TX9) (N := 8) hx hb hts hin9 hown hK.1 hP 0 rfl rfl 1 (by decide) (hts _ fl_X9_21) (fun _ h9 => h9) rfl dX9_sign_85 ?_
                refine lv_iload_n hx hb dX9_sign_88 rfl (lv_at hl 1 rfl) ?_
                refine lv_iload_n hx hb dX9_sign_89 rfl (lv_at hl 2 rfl) ?_
                refine lv_iload_n hx hb dX9_sign_90 rfl (lv_at hl 3 rfl) ?_
                refine lv_iload hx hb dX9_sign_91 (lv_at hl 4 rfl) ?_
                refine lv_iload hx hb dX9_sign_93 (lv_at hl 5 rfl) ?_
                refine lv_iload hx hb dX9_sign_95 (lv_at hl 6 rfl) ?_
                refine mi_F (As := [.int y1, .int y2, .int y3, .int y4, .int y5, .int y6]) (rest := []) ⟨hx, hb, hml, hown, hts⟩ (c_X6_lay l D cI cZ a S sb q hb9 y1 y2 y3 y4 y5 y6) (cw_X9_119 hts rfl rfl ⟨Nat.le_of_ble_eq_true rfl, Nat.le_of_ble_eq_true rfl⟩) hK (wP_sg hP) (wD_sg hD) hS (ci := 6) rfl rfl rfl hl.1 rfl (Nat.le_of_ble_eq_true rfl) dX9_sign_97 ⟨Nat.zero_le _, Nat.zero_le _⟩ (fun r u H1 locs hp hP1 hk9 hS => ?_)
                obtain ⟨hP, hD⟩ := fX_sg hP hD (show va_P D vwCl (wSg a cI (jLay S q y1 y2 y3 y4 y5 y6) (upd sb (S_n S) (if y6 = 0 then y5 else y5 ||| 65536)) q) H1 from hP1) hk9
                clear hP1 hk9
                generalize H1 = H at hP hS ⊢
                have hp : r = nI (S_n S) := hp
                subst hp
                exact mu_iret (v := (nI (S_n S))) hx hb hr hlocks (((jLay S q y1 y2 y3 y4 y5 y6), (upd sb (S_n S) (if y6 = 0 then y5 else y5 ||| 65536)))) (by show (((nI (S_n S)) : Int32), ((jLay S q y1 y2 y3 y4 y5 y6), (upd sb (S_n S) (if y6 = 0 then y5 else y5 ||| 65536)))) = jXsign S sb q pb y1 y2 y3 y4 y5 y6; unfold jXsign; (first | rw [if_pos c_1] | rw [if_neg c_1] | skip); (first | rw [if_pos c_7] | rw [if_neg c_7] | skip); (first | rw [if_pos c_8] | rw [if_neg c_8] | skip); (first | rw [if_pos c_9] | rw [if_neg c_9] | skip); (first | rw [if_pos c_10] | rw [if_neg c_10] | skip); (first | rw [if_pos c_11] | rw [if_neg c_11] | skip)) (hP) hS dX9_sign_100
              · skip
                refine lv_bipush (v := (-5)) hx hb dX9_sign_79 (by decide) ?_
                refine lv_goto (tgt := 100) hx hb dX9_sign_81 (by decide) ?_
                exact mu_iret (v := (-5)) hx hb hr hlocks ((S, sb)) (by show (((-5) : Int32), (S, sb)) = jXsign S sb q pb y1 y2 y3 y4 y5 y6; unfold jXsign; (first | rw [if_pos c_1] | rw [if_neg c_1] | skip); (first | rw [if_pos c_7] | rw [if_neg c_7] | skip); (first | rw [if_pos c_8] | rw [if_neg c_8] | skip); (first | rw [if_pos c_9] | rw [if_neg c_9] | skip); (first | rw [if_pos c_10] | rw [if_neg c_10] | skip); (first | rw [if_pos c_11] | rw [if_neg c_11] | skip)) (hP) hS dX9_sign_100
            · skip
              refine lv_bipush (v := (-3)) hx hb dX9_sign_64 (by decide) ?_
              exact mu_iret (v := (-3)) hx hb hr hlocks ((S, sb)) (by show (((-3) : Int32), (S, sb)) = jXsign S sb q pb y1 y2 y3 y4 y5 y6; unfold jXsign; (first | rw [if_pos c_1] | rw [if_neg c_1] | skip); (first | rw [if_pos c_7] | rw [if_neg c_7] | skip); (first | rw [if_pos c_8] | rw [if_neg c_8] | skip); (first | rw [if_pos c_9] | rw [if_neg c_9] | skip); (first | rw [if_pos c_10] | rw [if_neg c_10] | skip)) (hP) hS dX9_sign_66
      · skip
        have c_7 := zb_eq0 c_7
        have c_7 : (y2 = 0 ∨ y2 = 1) ∧ ¬ jTo pb y3 y1 = true := ⟨c_2, c_7⟩
        refine lv_bipush (v := (-2)) hx hb dX9_sign_26 (by decide) ?_
        exact mu_iret (v := (-2)) hx hb hr hlocks ((S, sb)) (by show (((-2) : Int32), (S, sb)) = jXsign S sb q pb y1 y2 y3 y4 y5 y6; unfold jXsign; (first | rw [if_pos c_1] | rw [if_neg c_1] | skip); (first | rw [if_pos c_7] | rw [if_neg c_7] | skip)) (hP) hS dX9_sign_28

def jXturn (S : TS) (pb : Nat → Int32) (x y : Int32) : Int32 × TS :=
  if 0 ≤ x ∧ x ≤ nI (S_n S) - 1 then if jTo pb y (rg (S_n S) (S_p S) x) = true then if rg (S_n S) (S_k S) x = 0 then if rg (S_n S) (S_f S) x ≤ 0 then (-4, S) else if rg (S_n S) (S_v S) x = y then (-4, S) else (S_v S x.toNatClampNeg, jPoint S x.toNatClampNeg y) else (-4, S) else (-2, S) else (-2, S)
set_option maxHeartbeats 4000000 in
set_option maxRecDepth 100000 in
theorem c_X9_turn (l : Launch) (D : va_G) (cI cZ : ClassId) (a : Nat → Nat) (N : TN) (pb : Nat → Int32) (hN16 : N_n N ≤ 16) (S : TS) (sb : Nat → Int32) (q : TQ) (hS24 : S_n S ≤ 24) (w : Nat × (Nat → Int32) × Int32 × Int32) (hw : w.1 ≤ 31) (o : TO) (wy : Nat → Int32) (ho8 : o.1 ≤ 8) (ro : TR) (hr10 : ro.1 ≤ 10) (t : TT) (ht6 : t.1 ≤ 6) (zf : Nat → Nat) (hzf : ∀ i, i < t.1 → t.2.2.1 i = nI (zf i) ∧ zf i ≤ 6) (fo : TF) (tr be : Nat → Int32) (hf5 : fo.1 ≤ 5) (k : TC) (hk8 : k.2.1 ≤ 8) (x y : Int32) : MI l D cI cZ yX9_turn wyX9_turn ({ frames := 4, cells := 0, slots := 0, locals := 85 } : Room) [.ref (a 0), .int x, .int y] (wX a cI N pb S sb q w o wy ro t fo tr be k) (fun r u => (r, u) = jXturn S pb x y) (fun (u : TS) => wX a cI N pb u sb q w o wy ro t fo tr be k) := by
  refine Met.ofW (cc := cX9_turn) (maxL := 3) (ret := (some .int)) (by decide) rfl ?_
  intro p e s m args below meth c s₁ B hml hv
  obtain ⟨rfl, hK, hP, hD0⟩ := hv
  have hx := B.exec
  have hb := B.bytes
  have hr := B.returns
  have hts0 := atoms_spec (ws := wyX9_turn) B.pre
  have hts : ∀ w ∈ big, w.before _ s = true := fun w h => hts0 w (List.mem_cons_of_mem _ h)
  have hown : s.vm.findClass RX9 = some m.cls := findClass_of_methodNamed B.named
  have hlocks := B.notSynchronized
  have hD := D_inW hD0
  have hS : va_S (inW (wX a cI N pb S sb q w o wy ro t fo tr be k)) s.heap s.heap [] := va_S.rf
  have hl := lv_entry ([.ref (a 0), .int x, .int y]) (n := 3) (Nat.le_of_ble_eq_true rfl)
  rw [lg_entry_eq]
  generalize (lg_sl ([.ref (a 0), .int x, .int y]) ++ List.replicate (3 - (lg_sl ([.ref (a 0), .int x, .int y])).length) Slot.unset).toArray = ls at hl ⊢
  have hl : lv_has ls 3 [(0, .ref (a 0)), (1, .int x), (2, .int y)] := hl
  refine lv_iload_n hx hb dX9_turn_0 rfl (lv_at hl 1 rfl) ?_
  refine lv_iconst (v := 0) hx hb dX9_turn_1 (by decide) ?_
  refine lv_aload_n hx hb dX9_turn_2 rfl (lv_at hl 0 rfl) ?_
  refine va_get (D := D) (ci := 9) (v := .ref (a 10)) (C := RX9) (T := TX9) (N := 8) hx hb hts hin9 hown hK.1 hP 0 rfl rfl 1 (by decide) (hts _ fl_X9_21) (fun _ h9 => h9) rfl dX9_turn_3 ?_
  refine ro_V (As := []) (rest := [.int 0, .int x]) ⟨hx, hb, hml, hown, hts⟩ (c_X6_signCount l D cI cZ a S sb q hS24) (cw_X9_116 hts rfl rfl ⟨Nat.le_of_ble_eq_true rfl, Nat.le_of_ble_eq_true rfl⟩) hK (wP_sg hP) (ci := 6) rfl rfl rfl hl.1 rfl (Nat.le_of_ble_eq_true rfl) dX9_turn_6 ⟨Nat.zero_le _, Nat.zero_le _⟩ ?_
  refine lv_iconst (v := 1) hx hb dX9_turn_9 (by decide) ?_
  refine lv_isub hx hb dX9_turn_10 ?_
  refine ro_S (As := [.int x, .int 0, .int ((nI (S_n S)) - 1)]) (rest := []) ⟨hx, hb, hml, hown, hts⟩ (c_X9_isWithin l D cI cZ  x 0 ((nI (S_n S)) - 1)) (cw_X9_77 hts rfl rfl ⟨Nat.le_of_ble_eq_true rfl, Nat.le_of_ble_eq_true rfl⟩) hK P_nil rfl hl.1 rfl (Nat.le_of_ble_eq_true rfl) dX9_turn_11 ⟨Nat.zero_le _, Nat.zero_le _⟩ ?_
  refine lv_if_eq (tgt := 36) hx hb dX9_turn_14 (by decide) (fun c_1 => ?_) (fun c_1 => ?_)
  · skip
    have c_1 := zb_eq0 c_1
    refine lv_bipush (v := (-2)) hx hb dX9_turn_36 (by decide) ?_
    exact mu_iret (v := (-2)) hx hb hr hlocks (S) (by show (((-2) : Int32), S) = jXturn S pb x y; unfold jXturn; (first | rw [if_pos c_1] | rw [if_neg c_1] | skip)) (hP) hS dX9_turn_38
  · skip
    have c_1 := zb_ne0 c_1
    obtain ⟨j, hj, ej⟩ := ix_of (n := (S_n S)) c_1 (by omega)
    have hl : lv_has ls 3 [(0, .ref (a 0)), (1, .int (nI j)), (2, .int y)] := by rw [← ej]; exact hl
    rw [ej] at c_1
    refine lv_aload_n hx hb dX9_turn_17 rfl (lv_at hl 0 rfl) ?_
    refine va_get (D := D) (ci := 9) (v := .ref (a 1)) (C := RX9) (T := TX9) (N := 8) hx hb hts hin9 hown hK.1 hP 0 rfl rfl 0 (by decide) (hts _ fl_X9_10) (fun _ h9 => h9) rfl dX9_turn_18 ?_
    refine lv_iload_n hx hb dX9_turn_21 rfl (lv_at hl 2 rfl) ?_
    refine lv_aload_n hx hb dX9_turn_22 rfl (lv_at hl 0 rfl) ?_
    refine va_get (D := D) (ci := 9) (v := .ref (a 10)) (C := RX9) (T := TX9) (N := 8) hx hb hts hin9 hown hK.1 hP 0 rfl rfl 1 (by decide) (hts _ fl_X9_21) (fun _ h9 => h9) rfl dX9_turn_23 ?_
    refine lv_iload_n hx hb dX9_turn_26 rfl (lv_at hl 1 rfl) ?_
    refine ro_V (As := [.int (nI j)]) (rest := [.int y, .ref (a 1)]) ⟨hx, hb, hml, hown, hts⟩ (c_X6_placeOf l D cI cZ a S sb q hS24 (nI j)) (cw_X9_123 hts rfl rfl ⟨Nat.le_of_ble_eq_true rfl, Nat.le_of_ble_eq_true rfl⟩) hK (wP_sg hP) (ci := 6) rfl rfl rfl hl.1 rfl (Nat.le_of_ble_eq_true rfl) dX9_turn_27 ⟨Nat.zero_le _, Nat.zero_le _⟩ ?_
    refine ro_V (As := [.int y, .int (rg (S_n S) (S_p S) (nI j))]) (rest := []) ⟨hx, hb, hml, hown, hts⟩ (c_X2_touches l D cI cZ a N pb hN16 y (rg (S_n S) (S_p S) (nI j))) (cw_X9_106 hts rfl rfl ⟨Nat.le_of_ble_eq_true rfl, Nat.le_of_ble_eq_true rfl⟩) hK (wP_net hP) (ci := 2) rfl rfl rfl hl.1 rfl (Nat.le_of_ble_eq_true rfl) dX9_turn_30 ⟨Nat.zero_le _, Nat.zero_le _⟩ ?_
    refine lv_if_ne (tgt := 39) hx hb dX9_turn_33 (by decide) (fun c_2 => ?_) (fun c_2 => ?_)
    · skip
      have c_2 := zb_ne0 c_2
      refine lv_aload_n hx hb dX9_turn_39 rfl (lv_at hl 0 rfl) ?_
      refine va_get (D := D) (ci := 9) (v := .ref (a 10)) (C := RX9) (T := TX9) (N := 8) hx hb hts hin9 hown hK.1 hP 0 rfl rfl 1 (by decide) (hts _ fl_X9_21) (fun _ h9 => h9) rfl dX9_turn_40 ?_
      refine lv_iload_n hx hb dX9_turn_43 rfl (lv_at hl 1 rfl) ?_
      refine ro_V (As := [.int (nI j)]) (rest := []) ⟨hx, hb, hml, hown, hts⟩ (c_X6_kindOf l D cI cZ a S sb q hS24 (nI j)) (cw_X9_126 hts rfl rfl ⟨Nat.le_of_ble_eq_true rfl, Nat.le_of_ble_eq_true rfl⟩) hK (wP_sg hP) (ci := 6) rfl rfl rfl hl.1 rfl (Nat.le_of_ble_eq_true rfl) dX9_turn_44 ⟨Nat.zero_le _, Nat.zero_le _⟩ ?_
      refine lv_if_ne (tgt := 73) hx hb dX9_turn_47 (by decide) (fun c_3 => ?_) (fun c_3 => ?_)
      · skip
        refine lv_bipush (v := (-4)) hx hb dX9_turn_73 (by decide) ?_
        exact mu_iret (v := (-4)) hx hb hr hlocks (S) (by show (((-4) : Int32), S) = jXturn S pb x y; unfold jXturn; rw [ej, nI_cl (by omega)]; (first | rw [if_pos c_1] | rw [if_neg c_1] | skip); (first | rw [if_pos c_2] | rw [if_neg c_2] | skip); (first | rw [if_pos c_3] | rw [if_neg c_3] | skip)) (hP) hS dX9_turn_75
      · skip
        refine lv_aload_n hx hb dX9_turn_50 rfl (lv_at hl 0 rfl) ?_
        refine va_get (D := D) (ci := 9) (v := .ref (a 10)) (C := RX9) (T := TX9) (N := 8) hx hb hts hin9 hown hK.1 hP 0 rfl rfl 1 (by decide) (hts _ fl_X9_21) (fun _ h9 => h9) rfl dX9_turn_51 ?_
        refine lv_iload_n hx hb dX9_turn_54 rfl (lv_at hl 1 rfl) ?_
        refine ro_V (As := [.int (nI j)]) (rest := []) ⟨hx, hb, hml, hown, hts⟩ (c_X6_isGone l D cI cZ a S sb q hS24 (nI j)) (cw_X9_129 hts rfl rfl ⟨Nat.le_of_ble_eq_true rfl, Nat.le_of_ble_eq_true rfl⟩) hK (wP_sg hP) (ci := 6) rfl rfl rfl hl.1 rfl (Nat.le_of_ble_eq_true rfl) dX9_turn_55 ⟨Nat.zero_le _, Nat.zero_le _⟩ ?_
        refine lv_if_ne (tgt := 73) hx hb dX9_turn_58 (by decide) (fun c_4 => ?_) (fun c_4 => ?_)
        · skip
          have c_4 := zb_ne0 c_4
          refine lv_bipush (v := (-4)) hx hb dX9_turn_73 (by decide) ?_
          exact mu_iret (v := (-4)) hx hb hr hlocks (S) (by show (((-4) : Int32), S) = jXturn S pb x y; unfold jXturn; rw [ej, nI_cl (by omega)]; (first | rw [if_pos c_1] | rw [if_neg c_1] | skip); (first | rw [if_pos c_2] | rw [if_neg c_2] | skip); (first | rw [if_pos c_3] | rw [if_neg c_3] | skip); (first | rw [if_pos c_4] | rw [if_neg c_4] | skip)) (hP) hS dX9_turn_75
        · skip
          have c_4 := zb_eq0 c_4
          refine lv_aload_n hx hb dX9_turn_61 rfl (lv_at hl 0 rfl) ?_
          refine va_get (D := D) (ci := 9) (v := .ref (a 10)) (C := RX9) (T := TX9) (N := 8) hx hb hts hin9 hown hK.1 hP 0 rfl rfl 1 (by decide) (hts _ fl_X9_21) (fun _ h9 => h9) rfl dX9_turn_62 ?_
          refine lv_iload_n hx hb dX9_turn_65 rfl (lv_at hl 1 rfl) ?_
          refine ro_V (As := [.int (nI j)]) (rest := []) ⟨hx, hb, hml, hown, hts⟩ (c_X6_valueOf l D cI cZ a S sb q hS24 (nI j)) (cw_X9_132 hts rfl rfl ⟨Nat.le_of_ble_eq_true rfl, Nat.le_of_ble_eq_true rfl⟩) hK (wP_sg hP) (ci := 6) rfl rfl rfl hl.1 rfl (Nat.le_of_ble_eq_true rfl) dX9_turn_66 ⟨Nat.zero_le _, Nat.zero_le _⟩ ?_
          refine lv_iload_n hx hb dX9_turn_69 rfl (lv_at hl 2 rfl) ?_
          refine lv_icmp_ne (tgt := 76) hx hb dX9_turn_70 (by decide) (fun c_5 => ?_) (fun c_5 => ?_)
          · skip
            refine lv_aload_n hx hb dX9_turn_76 rfl (lv_at hl 0 rfl) ?_
            refine va_get (D := D) (ci := 9) (v := .ref (a 10)) (C := RX9) (T := TX9) (N := 8) hx hb hts hin9 hown hK.1 hP 0 rfl rfl 1 (by decide) (hts _ fl_X9_21) (fun _ h9 => h9) rfl dX9_turn_77 ?_
            refine lv_iload_n hx hb dX9_turn_80 rfl (lv_at hl 1 rfl) ?_
            refine lv_iload_n hx hb dX9_turn_81 rfl (lv_at hl 2 rfl) ?_
            refine mi_F (As := [.int (nI j), .int y]) (rest := []) ⟨hx, hb, hml, hown, hts⟩ (c_X6_pointTo l D cI cZ a S sb q hS24 j hj y) (cw_X9_135 hts rfl rfl ⟨Nat.le_of_ble_eq_true rfl, Nat.le_of_ble_eq_true rfl⟩) hK (wP_sg hP) (wD_sg hD) hS (ci := 6) rfl rfl rfl hl.1 rfl (Nat.le_of_ble_eq_true rfl) dX9_turn_82 ⟨Nat.zero_le _, Nat.zero_le _⟩ (fun r u H1 locs hp hP1 hk9 hS => ?_)
            obtain ⟨hP, hD⟩ := fX_sg hP hD (show va_P D vwCl (wSg a cI (jPoint S j y) sb q) H1 from hP1) hk9
            clear hP1 hk9
            generalize H1 = H at hP hS ⊢
            have hp : r = S_v S j := hp
            subst hp
            exact mu_iret (v := (S_v S j)) hx hb hr hlocks ((jPoint S j y)) (by show (((S_v S j) : Int32), (jPoint S j y)) = jXturn S pb x y; unfold jXturn; rw [ej, nI_cl (by omega)]; (first | rw [if_pos c_1] | rw [if_neg c_1] | skip); (first | rw [if_pos c_2] | rw [if_neg c_2] | skip); (first | rw [if_pos c_3] | rw [if_neg c_3] | skip); (first | rw [if_pos c_4] | rw [if_neg c_4] | skip); (first | rw [if_pos c_5] | rw [if_neg c_5] | skip)) (hP) hS dX9_turn_85
          · skip
            refine lv_bipush (v := (-4)) hx hb dX9_turn_73 (by decide) ?_
            exact mu_iret (v := (-4)) hx hb hr hlocks (S) (by show (((-4) : Int32), S) = jXturn S pb x y; unfold jXturn; rw [ej, nI_cl (by omega)]; (first | rw [if_pos c_1] | rw [if_neg c_1] | skip); (first | rw [if_pos c_2] | rw [if_neg c_2] | skip); (first | rw [if_pos c_3] | rw [if_neg c_3] | skip); (first | rw [if_pos c_4] | rw [if_neg c_4] | skip); (first | rw [if_pos c_5] | rw [if_neg c_5] | skip)) (hP) hS dX9_turn_75
    · skip
      have c_2 := zb_eq0 c_2
      refine lv_bipush (v := (-2)) hx hb dX9_turn_36 (by decide) ?_
      exact mu_iret (v := (-2)) hx hb hr hlocks (S) (by show (((-2) : Int32), S) = jXturn S pb x y; unfold jXturn; rw [ej, nI_cl (by omega)]; (first | rw [if_pos c_1] | rw [if_neg c_1] | skip); (first | rw [if_pos c_2] | rw [if_neg c_2] | skip)) (hP) hS dX9_turn_38

def jXat (S : TS) (x y : Int32) : Int32 := if 0 ≤ x ∧ x ≤ nI (S_n S) - 1 then if 0 ≤ y ∧ y ≤ 5 then jTl S x y else -3 else -2
set_option maxHeartbeats 4000000 in
set_option maxRecDepth 100000 in
theorem c_X9_at (l : Launch) (D : va_G) (cI cZ : ClassId) (a : Nat → Nat) (N : TN) (pb : Nat → Int32) (hN16 : N_n N ≤ 16) (S : TS) (sb : Nat → Int32) (q : TQ) (hS24 : S_n S ≤ 24) (w : Nat × (Nat → Int32) × Int32 × Int32) (hw : w.1 ≤ 31) (o : TO) (wy : Nat → Int32) (ho8 : o.1 ≤ 8) (ro : TR) (hr10 : ro.1 ≤ 10) (t : TT) (ht6 : t.1 ≤ 6) (zf : Nat → Nat) (hzf : ∀ i, i < t.1 → t.2.2.1 i = nI (zf i) ∧ zf i ≤ 6) (fo : TF) (tr be : Nat → Int32) (hf5 : fo.1 ≤ 5) (k : TC) (hk8 : k.2.1 ≤ 8) (x y : Int32) : RO l D cI cZ yX9_at wyX9_at ({ frames := 3, cells := 0, slots := 0, locals := 64 } : Room) [.ref (a 0), .int x, .int y] (wX a cI N pb S sb q w o wy ro t fo tr be k) (jXat S x y) := by
  refine Met.ofW (cc := cX9_at) (maxL := 3) (ret := (some .int)) (by decide) rfl ?_
  intro p e s m args below meth c s₁ B hml hv
  obtain ⟨rfl, hK, hP⟩ := hv
  have hx := B.exec
  have hb := B.bytes
  have hr := B.returns
  have hts0 := atoms_spec (ws := wyX9_at) B.pre
  have hts : ∀ w ∈ big, w.before _ s = true := fun w h => hts0 w (List.mem_cons_of_mem _ h)
  have hown : s.vm.findClass RX9 = some m.cls := findClass_of_methodNamed B.named
  have hlocks := B.notSynchronized
  have hl := lv_entry ([.ref (a 0), .int x, .int y]) (n := 3) (Nat.le_of_ble_eq_true rfl)
  rw [lg_entry_eq]
  generalize (lg_sl ([.ref (a 0), .int x, .int y]) ++ List.replicate (3 - (lg_sl ([.ref (a 0), .int x, .int y])).length) Slot.unset).toArray = ls at hl ⊢
  have hl : lv_has ls 3 [(0, .ref (a 0)), (1, .int x), (2, .int y)] := hl
  refine lv_iload_n hx hb dX9_at_0 rfl (lv_at hl 1 rfl) ?_
  refine lv_iconst (v := 0) hx hb dX9_at_1 (by decide) ?_
  refine lv_aload_n hx hb dX9_at_2 rfl (lv_at hl 0 rfl) ?_
  refine va_get (D := D) (ci := 9) (v := .ref (a 10)) (C := RX9) (T := TX9) (N := 8) hx hb hts hin9 hown hK.1 hP 0 rfl rfl 1 (by decide) (hts _ fl_X9_21) (fun _ h9 => h9) rfl dX9_at_3 ?_
  refine ro_V (As := []) (rest := [.int 0, .int x]) ⟨hx, hb, hml, hown, hts⟩ (c_X6_signCount l D cI cZ a S sb q hS24) (cw_X9_116 hts rfl rfl ⟨Nat.le_of_ble_eq_true rfl, Nat.le_of_ble_eq_true rfl⟩) hK (wP_sg hP) (ci := 6) rfl rfl rfl hl.1 rfl (Nat.le_of_ble_eq_true rfl) dX9_at_6 ⟨Nat.zero_le _, Nat.zero_le _⟩ ?_
  refine lv_iconst (v := 1) hx hb dX9_at_9 (by decide) ?_
  refine lv_isub hx hb dX9_at_10 ?_
  refine ro_S (As := [.int x, .int 0, .int ((nI (S_n S)) - 1)]) (rest := []) ⟨hx, hb, hml, hown, hts⟩ (c_X9_isWithin l D cI cZ  x 0 ((nI (S_n S)) - 1)) (cw_X9_77 hts rfl rfl ⟨Nat.le_of_ble_eq_true rfl, Nat.le_of_ble_eq_true rfl⟩) hK P_nil rfl hl.1 rfl (Nat.le_of_ble_eq_true rfl) dX9_at_11 ⟨Nat.zero_le _, Nat.zero_le _⟩ ?_
  refine lv_if_ne (tgt := 20) hx hb dX9_at_14 (by decide) (fun c_1 => ?_) (fun c_1 => ?_)
  · skip
    have c_1 := zb_ne0 c_1
    refine lv_iload_n hx hb dX9_at_20 rfl (lv_at hl 2 rfl) ?_
    refine lv_iconst (v := 0) hx hb dX9_at_21 (by decide) ?_
    refine lv_iconst (v := 5) hx hb dX9_at_22 (by decide) ?_
    refine ro_S (As := [.int y, .int 0, .int 5]) (rest := []) ⟨hx, hb, hml, hown, hts⟩ (c_X9_isWithin l D cI cZ  y 0 5) (cw_X9_77 hts rfl rfl ⟨Nat.le_of_ble_eq_true rfl, Nat.le_of_ble_eq_true rfl⟩) hK P_nil rfl hl.1 rfl (Nat.le_of_ble_eq_true rfl) dX9_at_23 ⟨Nat.zero_le _, Nat.zero_le _⟩ ?_
    refine lv_if_eq (tgt := 41) hx hb dX9_at_26 (by decide) (fun c_2 => ?_) (fun c_2 => ?_)
    · skip
      have c_2 := zb_eq0 c_2
      refine lv_bipush (v := (-3)) hx hb dX9_at_41 (by decide) ?_
      exact ro_iret hx hb hr hlocks (by show ((-3) : Int32) = jXat S x y; unfold jXat; (first | rw [if_pos c_1] | rw [if_neg c_1] | skip); (first | rw [if_pos c_2] | rw [if_neg c_2] | skip)) dX9_at_43
    · skip
      have c_2 := zb_ne0 c_2
      refine lv_aload_n hx hb dX9_at_29 rfl (lv_at hl 0 rfl) ?_
      refine va_get (D := D) (ci := 9) (v := .ref (a 10)) (C := RX9) (T := TX9) (N := 8) hx hb hts hin9 hown hK.1 hP 0 rfl rfl 1 (by decide) (hts _ fl_X9_21) (fun _ h9 => h9) rfl dX9_at_30 ?_
      refine lv_iload_n hx hb dX9_at_33 rfl (lv_at hl 1 rfl) ?_
      refine lv_iload_n hx hb dX9_at_34 rfl (lv_at hl 2 rfl) ?_
      refine ro_V (As := [.int x, .int y]) (rest := []) ⟨hx, hb, hml, hown, hts⟩ (c_X6_tell l D cI cZ a S sb q hS24 x y) (cw_X9_138 hts rfl rfl ⟨Nat.le_of_ble_eq_true rfl, Nat.le_of_ble_eq_true rfl⟩) hK (wP_sg hP) (ci := 6) rfl rfl rfl hl.1 rfl (Nat.le_of_ble_eq_true rfl) dX9_at_35 ⟨Nat.zero_le _, Nat.zero_le _⟩ ?_
      refine lv_goto (tgt := 43) hx hb dX9_at_38 (by decide) ?_
      exact ro_iret hx hb hr hlocks (by show ((jTl S x y) : Int32) = jXat S x y; unfold jXat; (first | rw [if_pos c_1] | rw [if_neg c_1] | skip); (first | rw [if_pos c_2] | rw [if_neg c_2] | skip)) dX9_at_43
  · skip
    have c_1 := zb_eq0 c_1
    refine lv_bipush (v := (-2)) hx hb dX9_at_17 (by decide) ?_
    exact ro_iret hx hb hr hlocks (by show ((-2) : Int32) = jXat S x y; unfold jXat; (first | rw [if_pos c_1] | rw [if_neg c_1] | skip)) dX9_at_19

def jXset (q : TQ) (ro : TR) (t : TT) (x y : Int32) : Int32 × TQ × TR × TT :=
  if x = 0 then if 0 ≤ y ∧ y ≤ 9 then (q.2.2, (q.1, q.2.1, y), ro, t) else (-3, q, ro, t) else if x = 1 then if 0 ≤ y ∧ y ≤ 9 then (ro.2.2, q, (ro.1, ro.2.1, y), t) else (-3, q, ro, t) else if x = 2 then if 1 ≤ y ∧ y ≤ 40 then (t.2.2.2.2, q, ro, (t.1, t.2.1, t.2.2.1, t.2.2.2.1, y)) else (-3, q, ro, t) else (-3, q, ro, t)
set_option maxHeartbeats 4000000 in
set_option maxRecDepth 100000 in
theorem c_X9_set (l : Launch) (D : va_G) (cI cZ : ClassId) (a : Nat → Nat) (N : TN) (pb : Nat → Int32) (hN16 : N_n N ≤ 16) (S : TS) (sb : Nat → Int32) (q : TQ) (hS24 : S_n S ≤ 24) (w : Nat × (Nat → Int32) × Int32 × Int32) (hw : w.1 ≤ 31) (o : TO) (wy : Nat → Int32) (ho8 : o.1 ≤ 8) (ro : TR) (hr10 : ro.1 ≤ 10) (t : TT) (ht6 : t.1 ≤ 6) (zf : Nat → Nat) (hzf : ∀ i, i < t.1 → t.2.2.1 i = nI (zf i) ∧ zf i ≤ 6) (fo : TF) (tr be : Nat → Int32) (hf5 : fo.1 ≤ 5) (k : TC) (hk8 : k.2.1 ≤ 8) (x y : Int32) : MI l D cI cZ yX9_set wyX9_set ({ frames := 1, cells := 0, slots := 0, locals := 22 } : Room) [.ref (a 0), .int x, .int y] (wX a cI N pb S sb q w o wy ro t fo tr be k) (fun r u => (r, u) = jXset q ro t x y) (fun (u : TQ × TR × TT) => wX a cI N pb S sb u.1 w o wy u.2.1 u.2.2 fo tr be k) := by
  refine Met.ofW (cc := cX9_set) (maxL := 3) (ret := (some .int)) (by decide) rfl ?_
  intro p e s m args below meth c s₁ B hml hv
  obtain ⟨rfl, hK, hP, hD0⟩ := hv
  have hx := B.exec
  have hb := B.bytes
  have hr := B.returns
  have hts0 := atoms_spec (ws := wyX9_set) B.pre
  have hts : ∀ w ∈ big, w.before _ s = true := fun w h => hts0 w (List.mem_cons_of_mem _ h)
  have hown : s.vm.findClass RX9 = some m.cls := findClass_of_methodNamed B.named
  have hlocks := B.notSynchronized
  have hD := D_inW hD0
  have hS : va_S (inW (wX a cI N pb S sb q w o wy ro t fo tr be k)) s.heap s.heap [] := va_S.rf
  have hl := lv_entry ([.ref (a 0), .int x, .int y]) (n := 3) (Nat.le_of_ble_eq_true rfl)
  rw [lg_entry_eq]
  generalize (lg_sl ([.ref (a 0), .int x, .int y]) ++ List.replicate (3 - (lg_sl ([.ref (a 0), .int x, .int y])).length) Slot.unset).toArray = ls at hl ⊢
  have hl : lv_has ls 3 [(0, .ref (a 0)), (1, .int x), (2, .int y)] := hl
  refine lv_iload_n hx hb dX9_set_0 rfl (lv_at hl 1 rfl) ?_
  refine lv_if_ne (tgt := 23) hx hb dX9_set_1 (by decide) (fun c_1 => ?_) (fun c_1 => ?_)
  · skip
    refine lv_iload_n hx hb dX9_set_23 rfl (lv_at hl 1 rfl) ?_
    refine lv_iconst (v := 1) hx hb dX9_set_24 (by decide) ?_
    refine lv_icmp_ne (tgt := 47) hx hb dX9_set_25 (by decide) (fun c_2 => ?_) (fun c_2 => ?_)
    · skip
      refine lv_iload_n hx hb dX9_set_47 rfl (lv_at hl 1 rfl) ?_
      refine lv_iconst (v := 2) hx hb dX9_set_48 (by decide) ?_
      refine lv_icmp_ne (tgt := 71) hx hb dX9_set_49 (by decide) (fun c_3 => ?_) (fun c_3 => ?_)
      · skip
        refine lv_bipush (v := (-3)) hx hb dX9_set_71 (by decide) ?_
        exact mu_iret (v := (-3)) hx hb hr hlocks ((q, ro, t)) (by show (((-3) : Int32), (q, ro, t)) = jXset q ro t x y; unfold jXset; (first | rw [if_pos c_1] | rw [if_neg c_1] | skip); (first | rw [if_pos c_2] | rw [if_neg c_2] | skip); (first | rw [if_pos c_3] | rw [if_neg c_3] | skip)) (hP) hS dX9_set_73
      · skip
        refine lv_iload_n hx hb dX9_set_52 rfl (lv_at hl 2 rfl) ?_
        refine lv_iconst (v := 1) hx hb dX9_set_53 (by decide) ?_
        refine lv_bipush (v := 40) hx hb dX9_set_54 (by decide) ?_
        refine ro_S (As := [.int y, .int 1, .int 40]) (rest := []) ⟨hx, hb, hml, hown, hts⟩ (c_X9_isWithin l D cI cZ  y 1 40) (cw_X9_77 hts rfl rfl ⟨Nat.le_of_ble_eq_true rfl, Nat.le_of_ble_eq_true rfl⟩) hK P_nil rfl hl.1 rfl (Nat.le_of_ble_eq_true rfl) dX9_set_56 ⟨Nat.zero_le _, Nat.zero_le _⟩ ?_
        refine lv_if_eq (tgt := 71) hx hb dX9_set_59 (by decide) (fun c_4 => ?_) (fun c_4 => ?_)
        · skip
          have c_4 := zb_eq0 c_4
          refine lv_bipush (v := (-3)) hx hb dX9_set_71 (by decide) ?_
          exact mu_iret (v := (-3)) hx hb hr hlocks ((q, ro, t)) (by show (((-3) : Int32), (q, ro, t)) = jXset q ro t x y; unfold jXset; (first | rw [if_pos c_1] | rw [if_neg c_1] | skip); (first | rw [if_pos c_2] | rw [if_neg c_2] | skip); (first | rw [if_pos c_3] | rw [if_neg c_3] | skip); (first | rw [if_pos c_4] | rw [if_neg c_4] | skip)) (hP) hS dX9_set_73
        · skip
          have c_4 := zb_ne0 c_4
          refine lv_aload_n hx hb dX9_set_62 rfl (lv_at hl 0 rfl) ?_
          refine va_get (D := D) (ci := 9) (v := .ref (a 36)) (C := RX9) (T := TX9) (N := 8) hx hb hts hin9 hown hK.1 hP 0 rfl rfl 5 (by decide) (hts _ fl_X9_55) (fun _ h9 => h9) rfl dX9_set_63 ?_
          refine lv_iload_n hx hb dX9_set_66 rfl (lv_at hl 2 rfl) ?_
          refine mi_F (As := [.int y]) (rest := []) ⟨hx, hb, hml, hown, hts⟩ (c_X7_changeReach l D cI cZ a t ht6 y) (cw_X9_147 hts rfl rfl ⟨Nat.le_of_ble_eq_true rfl, Nat.le_of_ble_eq_true rfl⟩) hK (wP_tr hP) (wD_tr hD) hS (ci := 7) rfl rfl rfl hl.1 rfl (Nat.le_of_ble_eq_true rfl) dX9_set_67 ⟨Nat.zero_le _, Nat.zero_le _⟩ (fun r u H1 locs hp hP1 hk9 hS => ?_)
          obtain ⟨hP, hD⟩ := fX_tr hP hD (show va_P D vwCl (wTr a cI (t.1, t.2.1, t.2.2.1, t.2.2.2.1, y)) H1 from hP1) hk9
          clear hP1 hk9
          generalize H1 = H at hP hS ⊢
          have hp : r = t.2.2.2.2 := hp
          subst hp
          exact mu_iret (v := t.2.2.2.2) hx hb hr hlocks ((q, ro, (t.1, t.2.1, t.2.2.1, t.2.2.2.1, y))) (by show ((t.2.2.2.2 : Int32), (q, ro, (t.1, t.2.1, t.2.2.1, t.2.2.2.1, y))) = jXset q ro t x y; unfold jXset; (first | rw [if_pos c_1] | rw [if_neg c_1] | skip); (first | rw [if_pos c_2] | rw [if_neg c_2] | skip); (first | rw [if_pos c_3] | rw [if_neg c_3] | skip); (first | rw [if_pos c_4] | rw [if_neg c_4] | skip)) (hP) hS dX9_set_70
    · skip
      refine lv_iload_n hx hb dX9_set_28 rfl (lv_at hl 2 rfl) ?_
      refine lv_iconst (v := 0) hx hb dX9_set_29 (by decide) ?_
      refine lv_bipush (v := 9) hx hb dX9_set_30 (by decide) ?_
      refine ro_S (As := [.int y, .int 0, .int 9]) (rest := []) ⟨hx, hb, hml, hown, hts⟩ (c_X9_isWithin l D cI cZ  y 0 9) (cw_X9_77 hts rfl rfl ⟨Nat.le_of_ble_eq_true rfl, Nat.le_of_ble_eq_true rfl⟩) hK P_nil rfl hl.1 rfl (Nat.le_of_ble_eq_true rfl) dX9_set_32 ⟨Nat.zero_le _, Nat.zero_le _⟩ ?_
      refine lv_if_eq (tgt := 47) hx hb dX9_set_35 (by decide) (fun c_5 => ?_) (fun c_5 => ?_)
      · skip
        have c_5 := zb_eq0 c_5
        refine lv_iload_n hx hb dX9_set_47 rfl (lv_at hl 1 rfl) ?_
        refine lv_iconst (v := 2) hx hb dX9_set_48 (by decide) ?_
        refine lv_icmp_ne (tgt := 71) hx hb dX9_set_49 (by decide) (fun c_6 => ?_) (fun c_6 => ?_)
        · skip
          refine lv_bipush (v := (-3)) hx hb dX9_set_71 (by decide) ?_
          exact mu_iret (v := (-3)) hx hb hr hlocks ((q, ro, t)) (by show (((-3) : Int32), (q, ro, t)) = jXset q ro t x y; unfold jXset; (first | rw [if_pos c_1] | rw [if_neg c_1] | skip); (first | rw [if_pos c_2] | rw [if_neg c_2] | skip); (first | rw [if_pos c_5] | rw [if_neg c_5] | skip); (first | rw [if_pos c_6] | rw [if_neg c_6] | skip)) (hP) hS dX9_set_73
        · skip
          exact absurd (c_2.symm.trans c_6) (by decide)
      · skip
        have c_5 := zb_ne0 c_5
        refine lv_aload_n hx hb dX9_set_38 rfl (lv_at hl 0 rfl) ?_
        refine va_get (D := D) (ci := 9) (v := .ref (a 33)) (C := RX9) (T := TX9) (N := 8) hx hb hts hin9 hown hK.1 hP 0 rfl rfl 4 (by decide) (hts _ fl_X9_46) (fun _ h9 => h9) rfl dX9_set_39 ?_
        refine lv_iload_n hx hb dX9_set_42 rfl (lv_at hl 2 rfl) ?_
        refine mi_F (As := [.int y]) (rest := []) ⟨hx, hb, hml, hown, hts⟩ (c_X4_changeLeeway l D cI cZ a ro hr10 y) (cw_X9_144 hts rfl rfl ⟨Nat.le_of_ble_eq_true rfl, Nat.le_of_ble_eq_true rfl⟩) hK (wP_rt hP) (wD_rt hD) hS (ci := 4) rfl rfl rfl hl.1 rfl (Nat.le_of_ble_eq_true rfl) dX9_set_43 ⟨Nat.zero_le _, Nat.zero_le _⟩ (fun r u H1 locs hp hP1 hk9 hS => ?_)
        obtain ⟨hP, hD⟩ := fX_rt hP hD (show va_P D vwCl (wRt a cI (ro.1, ro.2.1, y)) H1 from hP1) hk9
        clear hP1 hk9
        generalize H1 = H at hP hS ⊢
        have hp : r = ro.2.2 := hp
        subst hp
        exact mu_iret (v := ro.2.2) hx hb hr hlocks ((q, (ro.1, ro.2.1, y), t)) (by show ((ro.2.2 : Int32), (q, (ro.1, ro.2.1, y), t)) = jXset q ro t x y; unfold jXset; (first | rw [if_pos c_1] | rw [if_neg c_1] | skip); (first | rw [if_pos c_2] | rw [if_neg c_2] | skip); (first | rw [if_pos c_5] | rw [if_neg c_5] | skip)) (hP) hS dX9_set_46
  · skip
    refine lv_iload_n hx hb dX9_set_4 rfl (lv_at hl 2 rfl) ?_
    refine lv_iconst (v := 0) hx hb dX9_set_5 (by decide) ?_
    refine lv_bipush (v := 9) hx hb dX9_set_6 (by decide) ?_
    refine ro_S (As := [.int y, .int 0, .int 9]) (rest := []) ⟨hx, hb, hml, hown, hts⟩ (c_X9_isWithin l D cI cZ  y 0 9) (cw_X9_77 hts rfl rfl ⟨Nat.le_of_ble_eq_true rfl, Nat.le_of_ble_eq_true rfl⟩) hK P_nil rfl hl.1 rfl (Nat.le_of_ble_eq_true rfl) dX9_set_8 ⟨Nat.zero_le _, Nat.zero_le _⟩ ?_
    refine lv_if_eq (tgt := 23) hx hb dX9_set_11 (by decide) (fun c_7 => ?_) (fun c_7 => ?_)
    · skip
      have c_7 := zb_eq0 c_7
      refine lv_iload_n hx hb dX9_set_23 rfl (lv_at hl 1 rfl) ?_
      refine lv_iconst (v := 1) hx hb dX9_set_24 (by decide) ?_
      refine lv_icmp_ne (tgt := 47) hx hb dX9_set_25 (by decide) (fun c_8 => ?_) (fun c_8 => ?_)
      · skip
        refine lv_iload_n hx hb dX9_set_47 rfl (lv_at hl 1 rfl) ?_
        refine lv_iconst (v := 2) hx hb dX9_set_48 (by decide) ?_
        refine lv_icmp_ne (tgt := 71) hx hb dX9_set_49 (by decide) (fun c_9 => ?_) (fun c_9 => ?_)
        · skip
          refine lv_bipush (v := (-3)) hx hb dX9_set_71 (by decide) ?_
          exact mu_iret (v := (-3)) hx hb hr hlocks ((q, ro, t)) (by show (((-3) : Int32), (q, ro, t)) = jXset q ro t x y; unfold jXset; (first | rw [if_pos c_1] | rw [if_neg c_1] | skip); (first | rw [if_pos c_7] | rw [if_neg c_7] | skip); (first | rw [if_pos c_8] | rw [if_neg c_8] | skip); (first | rw [if_pos c_9] | rw [if_neg c_9] | skip)) (hP) hS dX9_set_73
        · skip
          exact absurd (c_1.symm.trans c_9) (by decide)
      · skip
        exact absurd (c_1.symm.trans c_8) (by decide)
    · skip
      have c_7 := zb_ne0 c_7
      refine lv_aload_n hx hb dX9_set_14 rfl (lv_at hl 0 rfl) ?_
      refine va_get (D := D) (ci := 9) (v := .ref (a 10)) (C := RX9) (T := TX9) (N := 8) hx hb hts hin9 hown hK.1 hP 0 rfl rfl 1 (by decide) (hts _ fl_X9_21) (fun _ h9 => h9) rfl dX9_set_15 ?_
      refine lv_iload_n hx hb dX9_set_18 rfl (lv_at hl 2 rfl) ?_
      refine mi_F (As := [.int y]) (rest := []) ⟨hx, hb, hml, hown, hts⟩ (c_X6_changeFog l D cI cZ a S sb q hS24 y) (cw_X9_141 hts rfl rfl ⟨Nat.le_of_ble_eq_true rfl, Nat.le_of_ble_eq_true rfl⟩) hK (wP_sg hP) (wD_sg hD) hS (ci := 6) rfl rfl rfl hl.1 rfl (Nat.le_of_ble_eq_true rfl) dX9_set_19 ⟨Nat.zero_le _, Nat.zero_le _⟩ (fun r u H1 locs hp hP1 hk9 hS => ?_)
      obtain ⟨hP, hD⟩ := fX_sg hP hD (show va_P D vwCl (wSg a cI S sb (q.1, q.2.1, y)) H1 from hP1) hk9
      clear hP1 hk9
      generalize H1 = H at hP hS ⊢
      have hp : r = q.2.2 := hp
      subst hp
      exact mu_iret (v := q.2.2) hx hb hr hlocks (((q.1, q.2.1, y), ro, t)) (by show ((q.2.2 : Int32), ((q.1, q.2.1, y), ro, t)) = jXset q ro t x y; unfold jXset; (first | rw [if_pos c_1] | rw [if_neg c_1] | skip); (first | rw [if_pos c_7] | rw [if_neg c_7] | skip)) (hP) hS dX9_set_22

def jXseen (S : TS) (sb : Nat → Int32) (q : TQ) (N : TN) (pb : Nat → Int32) (x y : Int32) : Int32 := if 0 ≤ x ∧ x ≤ 9 then if ¬ y = -1 ∧ ¬ jTo pb y x = true then -2 else jAll S sb q N x y (S_n S) else -2
set_option maxHeartbeats 4000000 in
set_option maxRecDepth 100000 in
theorem c_X9_seen (l : Launch) (D : va_G) (cI cZ : ClassId) (a : Nat → Nat) (N : TN) (pb : Nat → Int32) (hN16 : N_n N ≤ 16) (S : TS) (sb : Nat → Int32) (q : TQ) (hS24 : S_n S ≤ 24) (w : Nat × (Nat → Int32) × Int32 × Int32) (hw : w.1 ≤ 31) (o : TO) (wy : Nat → Int32) (ho8 : o.1 ≤ 8) (ro : TR) (hr10 : ro.1 ≤ 10) (t : TT) (ht6 : t.1 ≤ 6) (zf : Nat → Nat) (hzf : ∀ i, i < t.1 → t.2.2.1 i = nI (zf i) ∧ zf i ≤ 6) (fo : TF) (tr be : Nat → Int32) (hf5 : fo.1 ≤ 5) (k : TC) (hk8 : k.2.1 ≤ 8) (x y : Int32) : RO l D cI cZ yX9_seen wyX9_seen ({ frames := 4, cells := 0, slots := 0, locals := 90 } : Room) [.ref (a 0), .int x, .int y] (wX a cI N pb S sb q w o wy ro t fo tr be k) (jXseen S sb q N pb x y) := by
  refine Met.ofW (cc := cX9_seen) (maxL := 3) (ret := (some .int)) (by decide) rfl ?_
  intro p e s m args below meth c s₁ B hml hv
  obtain ⟨rfl, hK, hP⟩ := hv
  have hx := B.exec
  have hb := B.bytes
  have hr := B.returns
  have hts0 := atoms_spec (ws := wyX9_seen) B.pre
  have hts : ∀ w ∈ big, w.before _ s = true := fun w h => hts0 w (List.mem_cons_of_mem _ h)
  have hown : s.vm.findClass RX9 = some m.cls := findClass_of_methodNamed B.named
  have hlocks := B.notSynchronized
  have hl := lv_entry ([.ref (a 0), .int x, .int y]) (n := 3) (Nat.le_of_ble_eq_true rfl)
  rw [lg_entry_eq]
  generalize (lg_sl ([.ref (a 0), .int x, .int y]) ++ List.replicate (3 - (lg_sl ([.ref (a 0), .int x, .int y])).length) Slot.unset).toArray = ls at hl ⊢
  have hl : lv_has ls 3 [(0, .ref (a 0)), (1, .int x), (2, .int y)] := hl
  refine lv_iload_n hx hb dX9_seen_0 rfl (lv_at hl 1 rfl) ?_
  refine ro_S (As := [.int x]) (rest := []) ⟨hx, hb, hml, hown, hts⟩ (c_X9_isPlace l D cI cZ  x) (cw_X9_73 hts rfl rfl ⟨Nat.le_of_ble_eq_true rfl, Nat.le_of_ble_eq_true rfl⟩) hK P_nil rfl hl.1 rfl (Nat.le_of_ble_eq_true rfl) dX9_seen_1 ⟨Nat.zero_le _, Nat.zero_le _⟩ ?_
  refine lv_if_eq (tgt := 24) hx hb dX9_seen_4 (by decide) (fun c_1 => ?_) (fun c_1 => ?_)
  · skip
    have c_1 := zb_eq0 c_1
    refine lv_bipush (v := (-2)) hx hb dX9_seen_24 (by decide) ?_
    exact ro_iret hx hb hr hlocks (by show ((-2) : Int32) = jXseen S sb q N pb x y; unfold jXseen; (first | rw [if_pos c_1] | rw [if_neg c_1] | skip)) dX9_seen_26
  · skip
    have c_1 := zb_ne0 c_1
    refine lv_iload_n hx hb dX9_seen_7 rfl (lv_at hl 2 rfl) ?_
    refine lv_iconst (v := (-1)) hx hb dX9_seen_8 (by decide) ?_
    refine lv_icmp_eq (tgt := 27) hx hb dX9_seen_9 (by decide) (fun c_2 => ?_) (fun c_2 => ?_)
    · skip
      have c_2 : ¬ (¬ y = -1 ∧ ¬ jTo pb y x = true) := fun z9 => z9.1 c_2
      refine lv_aload_n hx hb dX9_seen_27 rfl (lv_at hl 0 rfl) ?_
      refine va_get (D := D) (ci := 9) (v := .ref (a 10)) (C := RX9) (T := TX9) (N := 8) hx hb hts hin9 hown hK.1 hP 0 rfl rfl 1 (by decide) (hts _ fl_X9_21) (fun _ h9 => h9) rfl dX9_seen_28 ?_
      refine lv_iload_n hx hb dX9_seen_31 rfl (lv_at hl 1 rfl) ?_
      refine lv_iload_n hx hb dX9_seen_32 rfl (lv_at hl 2 rfl) ?_
      refine ro_V (As := [.int x, .int y]) (rest := []) ⟨hx, hb, hml, hown, hts⟩ (c_X6_allSeen l D cI cZ a S sb q hS24 N pb hN16 x y) (cw_X9_150 hts rfl rfl ⟨Nat.le_of_ble_eq_true rfl, Nat.le_of_ble_eq_true rfl⟩) hK ((wP_sg hP).app (wP_net hP)) (ci := 6) rfl rfl rfl hl.1 rfl (Nat.le_of_ble_eq_true rfl) dX9_seen_33 ⟨Nat.zero_le _, Nat.zero_le _⟩ ?_
      exact ro_iret hx hb hr hlocks (by show ((jAll S sb q N x y (S_n S)) : Int32) = jXseen S sb q N pb x y; unfold jXseen; (first | rw [if_pos c_1] | rw [if_neg c_1] | skip); (first | rw [if_pos c_2] | rw [if_neg c_2] | skip)) dX9_seen_36
    · skip
      refine lv_aload_n hx hb dX9_seen_12 rfl (lv_at hl 0 rfl) ?_
      refine va_get (D := D) (ci := 9) (v := .ref (a 1)) (C := RX9) (T := TX9) (N := 8) hx hb hts hin9 hown hK.1 hP 0 rfl rfl 0 (by decide) (hts _ fl_X9_10) (fun _ h9 => h9) rfl dX9_seen_13 ?_
      refine lv_iload_n hx hb dX9_seen_16 rfl (lv_at hl 2 rfl) ?_
      refine lv_iload_n hx hb dX9_seen_17 rfl (lv_at hl 1 rfl) ?_
      refine ro_V (As := [.int y, .int x]) (rest := []) ⟨hx, hb, hml, hown, hts⟩ (c_X2_touches l D cI cZ a N pb hN16 y x) (cw_X9_106 hts rfl rfl ⟨Nat.le_of_ble_eq_true rfl, Nat.le_of_ble_eq_true rfl⟩) hK (wP_net hP) (ci := 2) rfl rfl rfl hl.1 rfl (Nat.le_of_ble_eq_true rfl) dX9_seen_18 ⟨Nat.zero_le _, Nat.zero_le _⟩ ?_
      refine lv_if_ne (tgt := 27) hx hb dX9_seen_21 (by decide) (fun c_3 => ?_) (fun c_3 => ?_)
      · skip
        have c_3 := zb_ne0 c_3
        have c_3 : ¬ (¬ y = -1 ∧ ¬ jTo pb y x = true) := fun z9 => z9.2 c_3
        refine lv_aload_n hx hb dX9_seen_27 rfl (lv_at hl 0 rfl) ?_
        refine va_get (D := D) (ci := 9) (v := .ref (a 10)) (C := RX9) (T := TX9) (N := 8) hx hb hts hin9 hown hK.1 hP 0 rfl rfl 1 (by decide) (hts _ fl_X9_21) (fun _ h9 => h9) rfl dX9_seen_28 ?_
        refine lv_iload_n hx hb dX9_seen_31 rfl (lv_at hl 1 rfl) ?_
        refine lv_iload_n hx hb dX9_seen_32 rfl (lv_at hl 2 rfl) ?_
        refine ro_V (As := [.int x, .int y]) (rest := []) ⟨hx, hb, hml, hown, hts⟩ (c_X6_allSeen l D cI cZ a S sb q hS24 N pb hN16 x y) (cw_X9_150 hts rfl rfl ⟨Nat.le_of_ble_eq_true rfl, Nat.le_of_ble_eq_true rfl⟩) hK ((wP_sg hP).app (wP_net hP)) (ci := 6) rfl rfl rfl hl.1 rfl (Nat.le_of_ble_eq_true rfl) dX9_seen_33 ⟨Nat.zero_le _, Nat.zero_le _⟩ ?_
        exact ro_iret hx hb hr hlocks (by show ((jAll S sb q N x y (S_n S)) : Int32) = jXseen S sb q N pb x y; unfold jXseen; (first | rw [if_pos c_1] | rw [if_neg c_1] | skip); (first | rw [if_pos c_3] | rw [if_neg c_3] | skip)) dX9_seen_36
      · skip
        have c_3 := zb_eq0 c_3
        have c_3 : ¬ y = -1 ∧ ¬ jTo pb y x = true := ⟨c_2, c_3⟩
        refine lv_bipush (v := (-2)) hx hb dX9_seen_24 (by decide) ?_
        exact ro_iret hx hb hr hlocks (by show ((-2) : Int32) = jXseen S sb q N pb x y; unfold jXseen; (first | rw [if_pos c_1] | rw [if_neg c_1] | skip); (first | rw [if_pos c_3] | rw [if_neg c_3] | skip)) dX9_seen_26
