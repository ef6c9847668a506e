def jXroute (pb : Nat → Int32) (ro : TR) (x : Int32) : Int32 × TR := if 0 ≤ x ∧ x ≤ 9 then if jMg pb ro x = true then if nI ro.1 < 10 then (nI (ro.1 + 1), (ro.1 + 1, upd ro.2.1 ro.1 x, ro.2.2)) else (-5, ro) else (-4, ro) else (-2, ro)
set_option maxHeartbeats 4000000 in
set_option maxRecDepth 100000 in
theorem c_X9_route (l : Launch) (D : va_G) (cI cZ : ClassId) (a : Nat → Nat) (N : TN) (pb : Nat → Int32) (hN16 : N_n N ≤ 16) (S : TS) (sb : Nat → Int32) (q : TQ) (hS24 : S_n S ≤ 24) (w : Nat × (Nat → Int32) × Int32 × Int32) (hw : w.1 ≤ 31) (o : TO) (wy : Nat → Int32) (ho8 : o.1 ≤ 8) (ro : TR) (hr10 : ro.1 ≤ 10) (t : TT) (ht6 : t.1 ≤ 6) (zf : Nat → Nat) (hzf : ∀ i, i < t.1 → t.2.2.1 i = nI (zf i) ∧ zf i ≤ 6) (fo : TF) (tr be : Nat → Int32) (hf5 : fo.1 ≤ 5) (k : TC) (hk8 : k.2.1 ≤ 8) (x : Int32) : MI l D cI cZ yX9_route wyX9_route ({ frames := 5, cells := 0, slots := 0, locals := 107 } : Room) [.ref (a 0), .int x] (wX a cI N pb S sb q w o wy ro t fo tr be k) (fun r u => (r, u) = jXroute pb ro x) (fun (u : TR) => wX a cI N pb S sb q w o wy u t fo tr be k) := by
  refine Met.ofW (cc := cX9_route) (maxL := 2) (ret := (some .int)) (by decide) rfl ?_
  intro p e s m args below meth c s₁ B hml hv
  obtain ⟨rfl, hK, hP, hD0⟩ := hv
  have hx := B.exec
  have hb := B.bytes
  have hr := B.returns
  have hts0 := atoms_spec (ws := wyX9_route) B.pre
  have hts : ∀ w ∈ big, w.before _ s = true := fun w h => hts0 w (List.mem_cons_of_mem _ h)
  have hown : s.vm.findClass RX9 = some m.cls := findClass_of_methodNamed B.named
  have hlocks := B.notSynchronized
  have hD := D_inW hD0
  have hS : va_S (inW (wX a cI N pb S sb q w o wy ro t fo tr be k)) s.heap s.heap [] := va_S.rf
  have hl := lv_entry ([.ref (a 0), .int x]) (n := 2) (Nat.le_of_ble_eq_true rfl)
  rw [lg_entry_eq]
  generalize (lg_sl ([.ref (a 0), .int x]) ++ List.replicate (2 - (lg_sl ([.ref (a 0), .int x])).length) Slot.unset).toArray = ls at hl ⊢
  have hl : lv_has ls 2 [(0, .ref (a 0)), (1, .int x)] := hl
  refine lv_iload_n hx hb dX9_route_0 rfl (lv_at hl 1 rfl) ?_
  refine ro_S (As := [.int x]) (rest := []) ⟨hx, hb, hml, hown, hts⟩ (c_X9_isPlace l D cI cZ  x) (cw_X9_73 hts rfl rfl ⟨Nat.le_of_ble_eq_true rfl, Nat.le_of_ble_eq_true rfl⟩) hK P_nil rfl hl.1 rfl (Nat.le_of_ble_eq_true rfl) dX9_route_1 ⟨Nat.zero_le _, Nat.zero_le _⟩ ?_
  refine lv_if_ne (tgt := 10) hx hb dX9_route_4 (by decide) (fun c_1 => ?_) (fun c_1 => ?_)
  · skip
    have c_1 := zb_ne0 c_1
    refine lv_aload_n hx hb dX9_route_10 rfl (lv_at hl 0 rfl) ?_
    refine va_get (D := D) (ci := 9) (v := .ref (a 33)) (C := RX9) (T := TX9) (N := 8) hx hb hts hin9 hown hK.1 hP 0 rfl rfl 4 (by decide) (hts _ fl_X9_46) (fun _ h9 => h9) rfl dX9_route_11 ?_
    refine lv_iload_n hx hb dX9_route_14 rfl (lv_at hl 1 rfl) ?_
    refine ro_V (As := [.int x]) (rest := []) ⟨hx, hb, hml, hown, hts⟩ (c_X4_mayGoOnTo l D cI cZ a ro hr10 N pb hN16 x) (cw_X9_177 hts rfl rfl ⟨Nat.le_of_ble_eq_true rfl, Nat.le_of_ble_eq_true rfl⟩) hK ((wP_rt hP).app (wP_net hP)) (ci := 4) rfl rfl rfl hl.1 rfl (Nat.le_of_ble_eq_true rfl) dX9_route_15 ⟨Nat.zero_le _, Nat.zero_le _⟩ ?_
    refine lv_if_ne (tgt := 24) hx hb dX9_route_18 (by decide) (fun c_2 => ?_) (fun c_2 => ?_)
    · skip
      have c_2 := zb_ne0 c_2
      refine lv_aload_n hx hb dX9_route_24 rfl (lv_at hl 0 rfl) ?_
      refine va_get (D := D) (ci := 9) (v := .ref (a 33)) (C := RX9) (T := TX9) (N := 8) hx hb hts hin9 hown hK.1 hP 0 rfl rfl 4 (by decide) (hts _ fl_X9_46) (fun _ h9 => h9) rfl dX9_route_25 ?_
      refine ro_V (As := []) (rest := []) ⟨hx, hb, hml, hown, hts⟩ (c_X4_placeCount l D cI cZ a ro hr10) (cw_X9_180 hts rfl rfl ⟨Nat.le_of_ble_eq_true rfl, Nat.le_of_ble_eq_true rfl⟩) hK (wP_rt hP) (ci := 4) rfl rfl rfl hl.1 rfl (Nat.le_of_ble_eq_true rfl) dX9_route_28 ⟨Nat.zero_le _, Nat.zero_le _⟩ ?_
      refine lv_bipush (v := 10) hx hb dX9_route_31 (by decide) ?_
      refine lv_icmp_lt (tgt := 41) hx hb dX9_route_33 (by decide) (fun c_3 => ?_) (fun c_3 => ?_)
      · skip
        have hb9 : ro.1 < 10 := by have h9 := c_3; rw [show (10 : Int32) = nI 10 from rfl, nI_ltI (by omega) (by omega)] at h9; exact h9
        refine lv_aload_n hx hb dX9_route_41 rfl (lv_at hl 0 rfl) ?_
        refine va_get (D := D) (ci := 9) (v := .ref (a 33)) (C := RX9) (T := TX9) (N := 8) hx hb hts hin9 hown hK.1 hP 0 rfl rfl 4 (by decide) (hts _ fl_X9_46) (fun _ h9 => h9) rfl dX9_route_42 ?_
        refine lv_iload_n hx hb dX9_route_45 rfl (lv_at hl 1 rfl) ?_
        refine mi_F (As := [.int x]) (rest := []) ⟨hx, hb, hml, hown, hts⟩ (c_X4_goOnTo l D cI cZ a ro hb9 x) (cw_X9_183 hts rfl rfl ⟨Nat.le_of_ble_eq_true rfl, Nat.le_of_ble_eq_true rfl⟩) hK (wP_rt hP) (wD_rt hD) hS (ci := 4) rfl rfl rfl hl.1 rfl (Nat.le_of_ble_eq_true rfl) dX9_route_46 ⟨Nat.zero_le _, Nat.zero_le _⟩ (fun r u H1 locs hp hP1 hk9 hS => ?_)
        obtain ⟨hP, hD⟩ := fX_rt hP hD (show va_P D vwCl (wRt a cI (ro.1 + 1, upd ro.2.1 ro.1 x, ro.2.2)) H1 from hP1) hk9
        clear hP1 hk9
        generalize H1 = H at hP hS ⊢
        have hp : r = nI (ro.1 + 1) := hp
        subst hp
        exact mu_iret (v := (nI (ro.1 + 1))) hx hb hr hlocks ((ro.1 + 1, upd ro.2.1 ro.1 x, ro.2.2)) (by show (((nI (ro.1 + 1)) : Int32), (ro.1 + 1, upd ro.2.1 ro.1 x, ro.2.2)) = jXroute pb ro x; unfold jXroute; (first | rw [if_pos c_1] | rw [if_neg c_1] | skip); (first | rw [if_pos c_2] | rw [if_neg c_2] | skip); (first | rw [if_pos c_3] | rw [if_neg c_3] | skip)) (hP) hS dX9_route_49
      · skip
        refine lv_bipush (v := (-5)) hx hb dX9_route_36 (by decide) ?_
        refine lv_goto (tgt := 49) hx hb dX9_route_38 (by decide) ?_
        exact mu_iret (v := (-5)) hx hb hr hlocks (ro) (by show (((-5) : Int32), ro) = jXroute pb ro x; unfold jXroute; (first | rw [if_pos c_1] | rw [if_neg c_1] | skip); (first | rw [if_pos c_2] | rw [if_neg c_2] | skip); (first | rw [if_pos c_3] | rw [if_neg c_3] | skip)) (hP) hS dX9_route_49
    · skip
      have c_2 := zb_eq0 c_2
      refine lv_bipush (v := (-4)) hx hb dX9_route_21 (by decide) ?_
      exact mu_iret (v := (-4)) hx hb hr hlocks (ro) (by show (((-4) : Int32), ro) = jXroute pb ro x; unfold jXroute; (first | rw [if_pos c_1] | rw [if_neg c_1] | skip); (first | rw [if_pos c_2] | rw [if_neg c_2] | skip)) (hP) hS dX9_route_23
  · skip
    have c_1 := zb_eq0 c_1
    refine lv_bipush (v := (-2)) hx hb dX9_route_7 (by decide) ?_
    exact mu_iret (v := (-2)) hx hb hr hlocks (ro) (by show (((-2) : Int32), ro) = jXroute pb ro x; unfold jXroute; (first | rw [if_pos c_1] | rw [if_neg c_1] | skip)) (hP) hS dX9_route_9

def jXunroute (ro : TR) : Int32 × TR := (nI ro.1, (0, ro.2.1, ro.2.2))
set_option maxHeartbeats 4000000 in
set_option maxRecDepth 100000 in
theorem c_X9_unroute (l : Launch) (D : va_G) (cI cZ : ClassId) (a : Nat → Nat) (N : TN) (pb : Nat → Int32) (hN16 : N_n N ≤ 16) (S : TS) (sb : Nat → Int32) (q : TQ) (hS24 : S_n S ≤ 24) (w : Nat × (Nat → Int32) × Int32 × Int32) (hw : w.1 ≤ 31) (o : TO) (wy : Nat → Int32) (ho8 : o.1 ≤ 8) (ro : TR) (hr10 : ro.1 ≤ 10) (t : TT) (ht6 : t.1 ≤ 6) (zf : Nat → Nat) (hzf : ∀ i, i < t.1 → t.2.2.1 i = nI (zf i) ∧ zf i ≤ 6) (fo : TF) (tr be : Nat → Int32) (hf5 : fo.1 ≤ 5) (k : TC) (hk8 : k.2.1 ≤ 8) : MI l D cI cZ yX9_unroute wyX9_unroute ({ frames := 2, cells := 0, slots := 0, locals := 41 } : Room) [.ref (a 0)] (wX a cI N pb S sb q w o wy ro t fo tr be k) (fun r u => (r, u) = jXunroute ro) (fun (u : TR) => wX a cI N pb S sb q w o wy u t fo tr be k) := by
  refine Met.ofW (cc := cX9_unroute) (maxL := 1) (ret := (some .int)) (by decide) rfl ?_
  intro p e s m args below meth c s₁ B hml hv
  obtain ⟨rfl, hK, hP, hD0⟩ := hv
  have hx := B.exec
  have hb := B.bytes
  have hr := B.returns
  have hts0 := atoms_spec (ws := wyX9_unroute) B.pre
  have hts : ∀ w ∈ big, w.before _ s = true := fun w h => hts0 w (List.mem_cons_of_mem _ h)
  have hown : s.vm.findClass RX9 = some m.cls := findClass_of_methodNamed B.named
  have hlocks := B.notSynchronized
  have hD := D_inW hD0
  have hS : va_S (inW (wX a cI N pb S sb q w o wy ro t fo tr be k)) s.heap s.heap [] := va_S.rf
  have hl := lv_entry ([.ref (a 0)]) (n := 1) (Nat.le_of_ble_eq_true rfl)
  rw [lg_entry_eq]
  generalize (lg_sl ([.ref (a 0)]) ++ List.replicate (1 - (lg_sl ([.ref (a 0)])).length) Slot.unset).toArray = ls at hl ⊢
  have hl : lv_has ls 1 [(0, .ref (a 0))] := hl
  refine lv_aload_n hx hb dX9_unroute_0 rfl (lv_at hl 0 rfl) ?_
  refine va_get (D := D) (ci := 9) (v := .ref (a 33)) (C := RX9) (T := TX9) (N := 8) hx hb hts hin9 hown hK.1 hP 0 rfl rfl 4 (by decide) (hts _ fl_X9_46) (fun _ h9 => h9) rfl dX9_unroute_1 ?_
  refine mi_F (As := []) (rest := []) ⟨hx, hb, hml, hown, hts⟩ (c_X4_dropAll l D cI cZ a ro hr10) (cw_X9_186 hts rfl rfl ⟨Nat.le_of_ble_eq_true rfl, Nat.le_of_ble_eq_true rfl⟩) hK (wP_rt hP) (wD_rt hD) hS (ci := 4) rfl rfl rfl hl.1 rfl (Nat.le_of_ble_eq_true rfl) dX9_unroute_4 ⟨Nat.zero_le _, Nat.zero_le _⟩ (fun r u H1 locs hp hP1 hk9 hS => ?_)
  obtain ⟨hP, hD⟩ := fX_rt hP hD (show va_P D vwCl (wRt a cI (0, ro.2.1, ro.2.2)) H1 from hP1) hk9
  clear hP1 hk9
  generalize H1 = H at hP hS ⊢
  have hp : r = nI ro.1 := hp
  subst hp
  exact mu_iret (v := (nI ro.1)) hx hb hr hlocks ((0, ro.2.1, ro.2.2)) (by show (((nI ro.1) : Int32), (0, ro.2.1, ro.2.2)) = jXunroute ro; unfold jXunroute; rfl) (hP) hS dX9_unroute_7

def jXneeded (S : TS) (sb : Nat → Int32) (q : TQ) (N : TN) (pb : Nat → Int32) (ro : TR) (x : Int32) : Int32 := if 0 ≤ x ∧ x ≤ 1 then jMn S sb q N pb ro x else -3
set_option maxHeartbeats 4000000 in
set_option maxRecDepth 100000 in
theorem c_X9_needed (l : Launch) (D : va_G) (cI cZ : ClassId) (a : Nat → Nat) (N : TN) (pb : Nat → Int32) (hN16 : N_n N ≤ 16) (S : TS) (sb : Nat → Int32) (q : TQ) (hS24 : S_n S ≤ 24) (w : Nat × (Nat → Int32) × Int32 × Int32) (hw : w.1 ≤ 31) (o : TO) (wy : Nat → Int32) (ho8 : o.1 ≤ 8) (ro : TR) (hr10 : ro.1 ≤ 10) (t : TT) (ht6 : t.1 ≤ 6) (zf : Nat → Nat) (hzf : ∀ i, i < t.1 → t.2.2.1 i = nI (zf i) ∧ zf i ≤ 6) (fo : TF) (tr be : Nat → Int32) (hf5 : fo.1 ≤ 5) (k : TC) (hk8 : k.2.1 ≤ 8) (x : Int32) : RO l D cI cZ yX9_needed wyX9_needed ({ frames := 6, cells := 0, slots := 0, locals := 140 } : Room) [.ref (a 0), .int x] (wX a cI N pb S sb q w o wy ro t fo tr be k) (jXneeded S sb q N pb ro x) := by
  refine Met.ofW (cc := cX9_needed) (maxL := 2) (ret := (some .int)) (by decide) rfl ?_
  intro p e s m args below meth c s₁ B hml hv
  obtain ⟨rfl, hK, hP⟩ := hv
  have hx := B.exec
  have hb := B.bytes
  have hr := B.returns
  have hts0 := atoms_spec (ws := wyX9_needed) B.pre
  have hts : ∀ w ∈ big, w.before _ s = true := fun w h => hts0 w (List.mem_cons_of_mem _ h)
  have hown : s.vm.findClass RX9 = some m.cls := findClass_of_methodNamed B.named
  have hlocks := B.notSynchronized
  have hl := lv_entry ([.ref (a 0), .int x]) (n := 2) (Nat.le_of_ble_eq_true rfl)
  rw [lg_entry_eq]
  generalize (lg_sl ([.ref (a 0), .int x]) ++ List.replicate (2 - (lg_sl ([.ref (a 0), .int x])).length) Slot.unset).toArray = ls at hl ⊢
  have hl : lv_has ls 2 [(0, .ref (a 0)), (1, .int x)] := hl
  refine lv_iload_n hx hb dX9_needed_0 rfl (lv_at hl 1 rfl) ?_
  refine lv_iconst (v := 0) hx hb dX9_needed_1 (by decide) ?_
  refine lv_iconst (v := 1) hx hb dX9_needed_2 (by decide) ?_
  refine ro_S (As := [.int x, .int 0, .int 1]) (rest := []) ⟨hx, hb, hml, hown, hts⟩ (c_X9_isWithin l D cI cZ  x 0 1) (cw_X9_77 hts rfl rfl ⟨Nat.le_of_ble_eq_true rfl, Nat.le_of_ble_eq_true rfl⟩) hK P_nil rfl hl.1 rfl (Nat.le_of_ble_eq_true rfl) dX9_needed_3 ⟨Nat.zero_le _, Nat.zero_le _⟩ ?_
  refine lv_if_eq (tgt := 20) hx hb dX9_needed_6 (by decide) (fun c_1 => ?_) (fun c_1 => ?_)
  · skip
    have c_1 := zb_eq0 c_1
    refine lv_bipush (v := (-3)) hx hb dX9_needed_20 (by decide) ?_
    exact ro_iret hx hb hr hlocks (by show ((-3) : Int32) = jXneeded S sb q N pb ro x; unfold jXneeded; (first | rw [if_pos c_1] | rw [if_neg c_1] | skip)) dX9_needed_22
  · skip
    have c_1 := zb_ne0 c_1
    refine lv_aload_n hx hb dX9_needed_9 rfl (lv_at hl 0 rfl) ?_
    refine va_get (D := D) (ci := 9) (v := .ref (a 33)) (C := RX9) (T := TX9) (N := 8) hx hb hts hin9 hown hK.1 hP 0 rfl rfl 4 (by decide) (hts _ fl_X9_46) (fun _ h9 => h9) rfl dX9_needed_10 ?_
    refine lv_iload_n hx hb dX9_needed_13 rfl (lv_at hl 1 rfl) ?_
    refine ro_V (As := [.int x]) (rest := []) ⟨hx, hb, hml, hown, hts⟩ (c_X4_marksNeeded l D cI cZ a ro hr10 w hw S sb q hS24 N pb hN16 x) (cw_X9_187 hts rfl rfl ⟨Nat.le_of_ble_eq_true rfl, Nat.le_of_ble_eq_true rfl⟩) hK ((((wP_rt hP).app (wP_wk1 hP)).app (wP_sg hP)).app (wP_net hP)) (ci := 4) rfl rfl rfl hl.1 rfl (Nat.le_of_ble_eq_true rfl) dX9_needed_14 ⟨Nat.zero_le _, Nat.zero_le _⟩ ?_
    refine lv_goto (tgt := 22) hx hb dX9_needed_17 (by decide) ?_
    exact ro_iret hx hb hr hlocks (by show ((jMn S sb q N pb ro x) : Int32) = jXneeded S sb q N pb ro x; unfold jXneeded; (first | rw [if_pos c_1] | rw [if_neg c_1] | skip)) dX9_needed_22

def jXtrail (t : TT) (x y : Int32) : Int32 × TT := if 0 ≤ x ∧ x ≤ 9 then if nI t.1 < 6 then (nI t.1, jTb t x y) else (-5, t) else (-2, t)
set_option maxHeartbeats 4000000 in
set_option maxRecDepth 100000 in
theorem c_X9_trail (l : Launch) (D : va_G) (cI cZ : ClassId) (a : Nat → Nat) (N : TN) (pb : Nat → Int32) (hN16 : N_n N ≤ 16) (S : TS) (sb : Nat → Int32) (q : TQ) (hS24 : S_n S ≤ 24) (w : Nat × (Nat → Int32) × Int32 × Int32) (hw : w.1 ≤ 31) (o : TO) (wy : Nat → Int32) (ho8 : o.1 ≤ 8) (ro : TR) (hr10 : ro.1 ≤ 10) (t : TT) (ht6 : t.1 ≤ 6) (zf : Nat → Nat) (hzf : ∀ i, i < t.1 → t.2.2.1 i = nI (zf i) ∧ zf i ≤ 6) (fo : TF) (tr be : Nat → Int32) (hf5 : fo.1 ≤ 5) (k : TC) (hk8 : k.2.1 ≤ 8) (x y : Int32) : MI l D cI cZ yX9_trail wyX9_trail ({ frames := 4, cells := 0, slots := 0, locals := 88 } : Room) [.ref (a 0), .int x, .int y] (wX a cI N pb S sb q w o wy ro t fo tr be k) (fun r u => (r, u) = jXtrail t x y) (fun (u : TT) => wX a cI N pb S sb q w o wy ro u fo tr be k) := by
  refine Met.ofW (cc := cX9_trail) (maxL := 3) (ret := (some .int)) (by decide) rfl ?_
  intro p e s m args below meth c s₁ B hml hv
  obtain ⟨rfl, hK, hP, hD0⟩ := hv
  have hx := B.exec
  have hb := B.bytes
  have hr := B.returns
  have hts0 := atoms_spec (ws := wyX9_trail) B.pre
  have hts : ∀ w ∈ big, w.before _ s = true := fun w h => hts0 w (List.mem_cons_of_mem _ h)
  have hown : s.vm.findClass RX9 = some m.cls := findClass_of_methodNamed B.named
  have hlocks := B.notSynchronized
  have hD := D_inW hD0
  have hS : va_S (inW (wX a cI N pb S sb q w o wy ro t fo tr be k)) s.heap s.heap [] := va_S.rf
  have hl := lv_entry ([.ref (a 0), .int x, .int y]) (n := 3) (Nat.le_of_ble_eq_true rfl)
  rw [lg_entry_eq]
  generalize (lg_sl ([.ref (a 0), .int x, .int y]) ++ List.replicate (3 - (lg_sl ([.ref (a 0), .int x, .int y])).length) Slot.unset).toArray = ls at hl ⊢
  have hl : lv_has ls 3 [(0, .ref (a 0)), (1, .int x), (2, .int y)] := hl
  refine lv_iload_n hx hb dX9_trail_0 rfl (lv_at hl 1 rfl) ?_
  refine ro_S (As := [.int x]) (rest := []) ⟨hx, hb, hml, hown, hts⟩ (c_X9_isPlace l D cI cZ  x) (cw_X9_73 hts rfl rfl ⟨Nat.le_of_ble_eq_true rfl, Nat.le_of_ble_eq_true rfl⟩) hK P_nil rfl hl.1 rfl (Nat.le_of_ble_eq_true rfl) dX9_trail_1 ⟨Nat.zero_le _, Nat.zero_le _⟩ ?_
  refine lv_if_ne (tgt := 10) hx hb dX9_trail_4 (by decide) (fun c_1 => ?_) (fun c_1 => ?_)
  · skip
    have c_1 := zb_ne0 c_1
    refine lv_aload_n hx hb dX9_trail_10 rfl (lv_at hl 0 rfl) ?_
    refine va_get (D := D) (ci := 9) (v := .ref (a 36)) (C := RX9) (T := TX9) (N := 8) hx hb hts hin9 hown hK.1 hP 0 rfl rfl 5 (by decide) (hts _ fl_X9_55) (fun _ h9 => h9) rfl dX9_trail_11 ?_
    refine ro_V (As := []) (rest := []) ⟨hx, hb, hml, hown, hts⟩ (c_X7_trailCount l D cI cZ a t ht6) (cw_X9_190 hts rfl rfl ⟨Nat.le_of_ble_eq_true rfl, Nat.le_of_ble_eq_true rfl⟩) hK (wP_tr hP) (ci := 7) rfl rfl rfl hl.1 rfl (Nat.le_of_ble_eq_true rfl) dX9_trail_14 ⟨Nat.zero_le _, Nat.zero_le _⟩ ?_
    refine lv_bipush (v := 6) hx hb dX9_trail_17 (by decide) ?_
    refine lv_icmp_lt (tgt := 27) hx hb dX9_trail_19 (by decide) (fun c_2 => ?_) (fun c_2 => ?_)
    · skip
      have hb9 : t.1 < 6 := by have h9 := c_2; rw [show (6 : Int32) = nI 6 from rfl, nI_ltI (by omega) (by omega)] at h9; exact h9
      refine lv_aload_n hx hb dX9_trail_27 rfl (lv_at hl 0 rfl) ?_
      refine va_get (D := D) (ci := 9) (v := .ref (a 36)) (C := RX9) (T := TX9) (N := 8) hx hb hts hin9 hown hK.1 hP 0 rfl rfl 5 (by decide) (hts _ fl_X9_55) (fun _ h9 => h9) rfl dX9_trail_28 ?_
      refine lv_iload_n hx hb dX9_trail_31 rfl (lv_at hl 1 rfl) ?_
      refine lv_iload_n hx hb dX9_trail_32 rfl (lv_at hl 2 rfl) ?_
      refine mi_F (As := [.int x, .int y]) (rest := []) ⟨hx, hb, hml, hown, hts⟩ (c_X7_begin l D cI cZ a t hb9 x y) (cw_X9_193 hts rfl rfl ⟨Nat.le_of_ble_eq_true rfl, Nat.le_of_ble_eq_true rfl⟩) hK (wP_tr hP) (wD_tr hD) hS (ci := 7) rfl rfl rfl hl.1 rfl (Nat.le_of_ble_eq_true rfl) dX9_trail_33 ⟨Nat.zero_le _, Nat.zero_le _⟩ (fun r u H1 locs hp hP1 hk9 hS => ?_)
      obtain ⟨hP, hD⟩ := fX_tr hP hD (show va_P D vwCl (wTr a cI (jTb t x y)) H1 from hP1) hk9
      clear hP1 hk9
      generalize H1 = H at hP hS ⊢
      have hp : r = nI t.1 := hp
      subst hp
      exact mu_iret (v := (nI t.1)) hx hb hr hlocks ((jTb t x y)) (by show (((nI t.1) : Int32), (jTb t x y)) = jXtrail t x y; unfold jXtrail; (first | rw [if_pos c_1] | rw [if_neg c_1] | skip); (first | rw [if_pos c_2] | rw [if_neg c_2] | skip)) (hP) hS dX9_trail_36
    · skip
      refine lv_bipush (v := (-5)) hx hb dX9_trail_22 (by decide) ?_
      refine lv_goto (tgt := 36) hx hb dX9_trail_24 (by decide) ?_
      exact mu_iret (v := (-5)) hx hb hr hlocks (t) (by show (((-5) : Int32), t) = jXtrail t x y; unfold jXtrail; (first | rw [if_pos c_1] | rw [if_neg c_1] | skip); (first | rw [if_pos c_2] | rw [if_neg c_2] | skip)) (hP) hS dX9_trail_36
  · skip
    have c_1 := zb_eq0 c_1
    refine lv_bipush (v := (-2)) hx hb dX9_trail_7 (by decide) ?_
    exact mu_iret (v := (-2)) hx hb hr hlocks (t) (by show (((-2) : Int32), t) = jXtrail t x y; unfold jXtrail; (first | rw [if_pos c_1] | rw [if_neg c_1] | skip)) (hP) hS dX9_trail_9

def jXadd (pb : Nat → Int32) (t : TT) (zf : Nat → Nat) (x y : Int32) : Int32 × TT := if 0 ≤ x ∧ x ≤ nI t.1 - 1 then if 0 ≤ y ∧ y ≤ 9 then if jMt pb t zf x.toNatClampNeg y = true then if nI (zf x.toNatClampNeg) < 6 then (nI (zf x.toNatClampNeg + 1), jTg t x.toNatClampNeg (zf x.toNatClampNeg) y) else (-5, t) else (-4, t) else (-2, t) else (-2, t)
set_option maxHeartbeats 4000000 in
set_option maxRecDepth 100000 in
theorem c_X9_add (l : Launch) (D : va_G) (cI cZ : ClassId) (a : Nat → Nat) (N : TN) (pb : Nat → Int32) (hN16 : N_n N ≤ 16) (S : TS) (sb : Nat → Int32) (q : TQ) (hS24 : S_n S ≤ 24) (w : Nat × (Nat → Int32) × Int32 × Int32) (hw : w.1 ≤ 31) (o : TO) (wy : Nat → Int32) (ho8 : o.1 ≤ 8) (ro : TR) (hr10 : ro.1 ≤ 10) (t : TT) (ht6 : t.1 ≤ 6) (zf : Nat → Nat) (hzf : ∀ i, i < t.1 → t.2.2.1 i = nI (zf i) ∧ zf i ≤ 6) (fo : TF) (tr be : Nat → Int32) (hf5 : fo.1 ≤ 5) (k : TC) (hk8 : k.2.1 ≤ 8) (x y : Int32) : MI l D cI cZ yX9_add wyX9_add ({ frames := 5, cells := 0, slots := 0, locals := 110 } : Room) [.ref (a 0), .int x, .int y] (wX a cI N pb S sb q w o wy ro t fo tr be k) (fun r u => (r, u) = jXadd pb t zf x y) (fun (u : TT) => wX a cI N pb S sb q w o wy ro u fo tr be k) := by
  refine Met.ofW (cc := cX9_add) (maxL := 3) (ret := (some .int)) (by decide) rfl ?_
  intro p e s m args below meth c s₁ B hml hv
  obtain ⟨rfl, hK, hP, hD0⟩ := hv
  have hx := B.exec
  have hb := B.bytes
  have hr := B.returns
  have hts0 := atoms_spec (ws := wyX9_add) B.pre
  have hts : ∀ w ∈ big, w.before _ s = true := fun w h => hts0 w (List.mem_cons_of_mem _ h)
  have hown : s.vm.findClass RX9 = some m.cls := findClass_of_methodNamed B.named
  have hlocks := B.notSynchronized
  have hD := D_inW hD0
  have hS : va_S (inW (wX a cI N pb S sb q w o wy ro t fo tr be k)) s.heap s.heap [] := va_S.rf
  have hl := lv_entry ([.ref (a 0), .int x, .int y]) (n := 3) (Nat.le_of_ble_eq_true rfl)
  rw [lg_entry_eq]
  generalize (lg_sl ([.ref (a 0), .int x, .int y]) ++ List.replicate (3 - (lg_sl ([.ref (a 0), .int x, .int y])).length) Slot.unset).toArray = ls at hl ⊢
  have hl : lv_has ls 3 [(0, .ref (a 0)), (1, .int x), (2, .int y)] := hl
  refine lv_iload_n hx hb dX9_add_0 rfl (lv_at hl 1 rfl) ?_
  refine lv_iconst (v := 0) hx hb dX9_add_1 (by decide) ?_
  refine lv_aload_n hx hb dX9_add_2 rfl (lv_at hl 0 rfl) ?_
  refine va_get (D := D) (ci := 9) (v := .ref (a 36)) (C := RX9) (T := TX9) (N := 8) hx hb hts hin9 hown hK.1 hP 0 rfl rfl 5 (by decide) (hts _ fl_X9_55) (fun _ h9 => h9) rfl dX9_add_3 ?_
  refine ro_V (As := []) (rest := [.int 0, .int x]) ⟨hx, hb, hml, hown, hts⟩ (c_X7_trailCount l D cI cZ a t ht6) (cw_X9_190 hts rfl rfl ⟨Nat.le_of_ble_eq_true rfl, Nat.le_of_ble_eq_true rfl⟩) hK (wP_tr hP) (ci := 7) rfl rfl rfl hl.1 rfl (Nat.le_of_ble_eq_true rfl) dX9_add_6 ⟨Nat.zero_le _, Nat.zero_le _⟩ ?_
  refine lv_iconst (v := 1) hx hb dX9_add_9 (by decide) ?_
  refine lv_isub hx hb dX9_add_10 ?_
  refine ro_S (As := [.int x, .int 0, .int ((nI t.1) - 1)]) (rest := []) ⟨hx, hb, hml, hown, hts⟩ (c_X9_isWithin l D cI cZ  x 0 ((nI t.1) - 1)) (cw_X9_77 hts rfl rfl ⟨Nat.le_of_ble_eq_true rfl, Nat.le_of_ble_eq_true rfl⟩) hK P_nil rfl hl.1 rfl (Nat.le_of_ble_eq_true rfl) dX9_add_11 ⟨Nat.zero_le _, Nat.zero_le _⟩ ?_
  refine lv_if_eq (tgt := 24) hx hb dX9_add_14 (by decide) (fun c_1 => ?_) (fun c_1 => ?_)
  · skip
    have c_1 := zb_eq0 c_1
    refine lv_bipush (v := (-2)) hx hb dX9_add_24 (by decide) ?_
    exact mu_iret (v := (-2)) hx hb hr hlocks (t) (by show (((-2) : Int32), t) = jXadd pb t zf x y; unfold jXadd; (first | rw [if_pos c_1] | rw [if_neg c_1] | skip)) (hP) hS dX9_add_26
  · skip
    have c_1 := zb_ne0 c_1
    obtain ⟨j, hj, ej⟩ := ix_of (n := t.1) c_1 (by omega)
    have hl : lv_has ls 3 [(0, .ref (a 0)), (1, .int (nI j)), (2, .int y)] := by rw [← ej]; exact hl
    rw [ej] at c_1
    refine lv_iload_n hx hb dX9_add_17 rfl (lv_at hl 2 rfl) ?_
    refine ro_S (As := [.int y]) (rest := []) ⟨hx, hb, hml, hown, hts⟩ (c_X9_isPlace l D cI cZ  y) (cw_X9_73 hts rfl rfl ⟨Nat.le_of_ble_eq_true rfl, Nat.le_of_ble_eq_true rfl⟩) hK P_nil rfl hl.1 rfl (Nat.le_of_ble_eq_true rfl) dX9_add_18 ⟨Nat.zero_le _, Nat.zero_le _⟩ ?_
    refine lv_if_ne (tgt := 27) hx hb dX9_add_21 (by decide) (fun c_2 => ?_) (fun c_2 => ?_)
    · skip
      have c_2 := zb_ne0 c_2
      refine lv_aload_n hx hb dX9_add_27 rfl (lv_at hl 0 rfl) ?_
      refine va_get (D := D) (ci := 9) (v := .ref (a 36)) (C := RX9) (T := TX9) (N := 8) hx hb hts hin9 hown hK.1 hP 0 rfl rfl 5 (by decide) (hts _ fl_X9_55) (fun _ h9 => h9) rfl dX9_add_28 ?_
      refine lv_iload_n hx hb dX9_add_31 rfl (lv_at hl 1 rfl) ?_
      refine lv_iload_n hx hb dX9_add_32 rfl (lv_at hl 2 rfl) ?_
      refine ro_V (As := [.int (nI j), .int y]) (rest := []) ⟨hx, hb, hml, hown, hts⟩ (c_X7_mayGoOnTo l D cI cZ a t ht6 zf hzf N pb hN16 j hj y) (cw_X9_197 hts rfl rfl ⟨Nat.le_of_ble_eq_true rfl, Nat.le_of_ble_eq_true rfl⟩) hK ((wP_tr hP).app (wP_net hP)) (ci := 7) rfl rfl rfl hl.1 rfl (Nat.le_of_ble_eq_true rfl) dX9_add_33 ⟨Nat.zero_le _, Nat.zero_le _⟩ ?_
      refine lv_if_ne (tgt := 42) hx hb dX9_add_36 (by decide) (fun c_3 => ?_) (fun c_3 => ?_)
      · skip
        have c_3 := zb_ne0 c_3
        refine lv_aload_n hx hb dX9_add_42 rfl (lv_at hl 0 rfl) ?_
        refine va_get (D := D) (ci := 9) (v := .ref (a 36)) (C := RX9) (T := TX9) (N := 8) hx hb hts hin9 hown hK.1 hP 0 rfl rfl 5 (by decide) (hts _ fl_X9_55) (fun _ h9 => h9) rfl dX9_add_43 ?_
        refine lv_iload_n hx hb dX9_add_46 rfl (lv_at hl 1 rfl) ?_
        refine ro_V (As := [.int (nI j)]) (rest := []) ⟨hx, hb, hml, hown, hts⟩ (c_X7_sizeOf l D cI cZ a t ht6 (nI j)) (cw_X9_199 hts rfl rfl ⟨Nat.le_of_ble_eq_true rfl, Nat.le_of_ble_eq_true rfl⟩) hK (wP_tr hP) (ci := 7) rfl rfl rfl hl.1 rfl (Nat.le_of_ble_eq_true rfl) dX9_add_47 ⟨Nat.zero_le _, Nat.zero_le _⟩ ?_
        rw [rg_in hj (show t.1 < 2 ^ 31 by omega), (hzf j hj).1]
        refine lv_bipush (v := 6) hx hb dX9_add_50 (by decide) ?_
        refine lv_icmp_lt (tgt := 60) hx hb dX9_add_52 (by decide) (fun c_4 => ?_) (fun c_4 => ?_)
        · skip
          have hb9 : zf j < 6 := by have h9 := c_4; have h8 := (hzf j hj).2; rw [show (6 : Int32) = nI 6 from rfl, nI_ltI (by omega) (by omega)] at h9; exact h9
          refine lv_aload_n hx hb dX9_add_60 rfl (lv_at hl 0 rfl) ?_
          refine va_get (D := D) (ci := 9) (v := .ref (a 36)) (C := RX9) (T := TX9) (N := 8) hx hb hts hin9 hown hK.1 hP 0 rfl rfl 5 (by decide) (hts _ fl_X9_55) (fun _ h9 => h9) rfl dX9_add_61 ?_
          refine lv_iload_n hx hb dX9_add_64 rfl (lv_at hl 1 rfl) ?_
          refine lv_iload_n hx hb dX9_add_65 rfl (lv_at hl 2 rfl) ?_
          refine mi_F (As := [.int (nI j), .int y]) (rest := []) ⟨hx, hb, hml, hown, hts⟩ (c_X7_goOnTo l D cI cZ a t ht6 j (zf j) hj (hzf j hj).1 hb9 y) (cw_X9_202 hts rfl rfl ⟨Nat.le_of_ble_eq_true rfl, Nat.le_of_ble_eq_true rfl⟩) hK (wP_tr hP) (wD_tr hD) hS (ci := 7) rfl rfl rfl hl.1 rfl (Nat.le_of_ble_eq_true rfl) dX9_add_66 ⟨Nat.zero_le _, Nat.zero_le _⟩ (fun r u H1 locs hp hP1 hk9 hS => ?_)
          obtain ⟨hP, hD⟩ := fX_tr hP hD (show va_P D vwCl (wTr a cI (jTg t j (zf j) y)) H1 from hP1) hk9
          clear hP1 hk9
          generalize H1 = H at hP hS ⊢
          have hp : r = nI (zf j + 1) := hp
          subst hp
          exact mu_iret (v := (nI (zf j + 1))) hx hb hr hlocks ((jTg t j (zf j) y)) (by show (((nI (zf j + 1)) : Int32), (jTg t j (zf j) y)) = jXadd pb t zf x y; unfold jXadd; rw [ej, nI_cl (by omega)]; (first | rw [if_pos c_1] | rw [if_neg c_1] | skip); (first | rw [if_pos c_2] | rw [if_neg c_2] | skip); (first | rw [if_pos c_3] | rw [if_neg c_3] | skip); (first | rw [if_pos c_4] | rw [if_neg c_4] | skip)) (hP) hS dX9_add_69
        · skip
          refine lv_bipush (v := (-5)) hx hb dX9_add_55 (by decide) ?_
          refine lv_goto (tgt := 69) hx hb dX9_add_57 (by decide) ?_
          exact mu_iret (v := (-5)) hx hb hr hlocks (t) (by show (((-5) : Int32), t) = jXadd pb t zf x y; unfold jXadd; rw [ej, nI_cl (by omega)]; (first | rw [if_pos c_1] | rw [if_neg c_1] | skip); (first | rw [if_pos c_2] | rw [if_neg c_2] | skip); (first | rw [if_pos c_3] | rw [if_neg c_3] | skip); (first | rw [if_pos c_4] | rw [if_neg c_4] | skip)) (hP) hS dX9_add_69
      · skip
        have c_3 := zb_eq0 c_3
        refine lv_bipush (v := (-4)) hx hb dX9_add_39 (by decide) ?_
        exact mu_iret (v := (-4)) hx hb hr hlocks (t) (by show (((-4) : Int32), t) = jXadd pb t zf x y; unfold jXadd; rw [ej, nI_cl (by omega)]; (first | rw [if_pos c_1] | rw [if_neg c_1] | skip); (first | rw [if_pos c_2] | rw [if_neg c_2] | skip); (first | rw [if_pos c_3] | rw [if_neg c_3] | skip)) (hP) hS dX9_add_41
    · skip
      have c_2 := zb_eq0 c_2
      refine lv_bipush (v := (-2)) hx hb dX9_add_24 (by decide) ?_
      exact mu_iret (v := (-2)) hx hb hr hlocks (t) (by show (((-2) : Int32), t) = jXadd pb t zf x y; unfold jXadd; rw [ej, nI_cl (by omega)]; (first | rw [if_pos c_1] | rw [if_neg c_1] | skip); (first | rw [if_pos c_2] | rw [if_neg c_2] | skip)) (hP) hS dX9_add_26

def jXbreaks (N : TN) (pb : Nat → Int32) (t : TT) (zf : Nat → Nat) (ro : TR) (x : Int32) : Int32 := if 0 ≤ x ∧ x ≤ nI t.1 - 1 then jFt N pb t zf ro x.toNatClampNeg else -2
set_option maxHeartbeats 4000000 in
set_option maxRecDepth 100000 in
theorem c_X9_breaks (l : Launch) (D : va_G) (cI cZ : ClassId) (a : Nat → Nat) (N : TN) (pb : Nat → Int32) (hN16 : N_n N ≤ 16) (S : TS) (sb : Nat → Int32) (q : TQ) (hS24 : S_n S ≤ 24) (w : Nat × (Nat → Int32) × Int32 × Int32) (hw : w.1 ≤ 31) (o : TO) (wy : Nat → Int32) (ho8 : o.1 ≤ 8) (ro : TR) (hr10 : ro.1 ≤ 10) (t : TT) (ht6 : t.1 ≤ 6) (zf : Nat → Nat) (hzf : ∀ i, i < t.1 → t.2.2.1 i = nI (zf i) ∧ zf i ≤ 6) (fo : TF) (tr be : Nat → Int32) (hf5 : fo.1 ≤ 5) (k : TC) (hk8 : k.2.1 ≤ 8) (x : Int32) : RO l D cI cZ yX9_breaks wyX9_breaks ({ frames := 6, cells := 0, slots := 0, locals := 134 } : Room) [.ref (a 0), .int x] (wX a cI N pb S sb q w o wy ro t fo tr be k) (jXbreaks N pb t zf ro x) := by
  refine Met.ofW (cc := cX9_breaks) (maxL := 2) (ret := (some .int)) (by decide) rfl ?_
  intro p e s m args below meth c s₁ B hml hv
  obtain ⟨rfl, hK, hP⟩ := hv
  have hx := B.exec
  have hb := B.bytes
  have hr := B.returns
  have hts0 := atoms_spec (ws := wyX9_breaks) B.pre
  have hts : ∀ w ∈ big, w.before _ s = true := fun w h => hts0 w (List.mem_cons_of_mem _ h)
  have hown : s.vm.findClass RX9 = some m.cls := findClass_of_methodNamed B.named
  have hlocks := B.notSynchronized
  have hl := lv_entry ([.ref (a 0), .int x]) (n := 2) (Nat.le_of_ble_eq_true rfl)
  rw [lg_entry_eq]
  generalize (lg_sl ([.ref (a 0), .int x]) ++ List.replicate (2 - (lg_sl ([.ref (a 0), .int x])).length) Slot.unset).toArray = ls at hl ⊢
  have hl : lv_has ls 2 [(0, .ref (a 0)), (1, .int x)] := hl
  refine lv_iload_n hx hb dX9_breaks_0 rfl (lv_at hl 1 rfl) ?_
  refine lv_iconst (v := 0) hx hb dX9_breaks_1 (by decide) ?_
  refine lv_aload_n hx hb dX9_breaks_2 rfl (lv_at hl 0 rfl) ?_
  refine va_get (D := D) (ci := 9) (v := .ref (a 36)) (C := RX9) (T := TX9) (N := 8) hx hb hts hin9 hown hK.1 hP 0 rfl rfl 5 (by decide) (hts _ fl_X9_55) (fun _ h9 => h9) rfl dX9_breaks_3 ?_
  refine ro_V (As := []) (rest := [.int 0, .int x]) ⟨hx, hb, hml, hown, hts⟩ (c_X7_trailCount l D cI cZ a t ht6) (cw_X9_190 hts rfl rfl ⟨Nat.le_of_ble_eq_true rfl, Nat.le_of_ble_eq_true rfl⟩) hK (wP_tr hP) (ci := 7) rfl rfl rfl hl.1 rfl (Nat.le_of_ble_eq_true rfl) dX9_breaks_6 ⟨Nat.zero_le _, Nat.zero_le _⟩ ?_
  refine lv_iconst (v := 1) hx hb dX9_breaks_9 (by decide) ?_
  refine lv_isub hx hb dX9_breaks_10 ?_
  refine ro_S (As := [.int x, .int 0, .int ((nI t.1) - 1)]) (rest := []) ⟨hx, hb, hml, hown, hts⟩ (c_X9_isWithin l D cI cZ  x 0 ((nI t.1) - 1)) (cw_X9_77 hts rfl rfl ⟨Nat.le_of_ble_eq_true rfl, Nat.le_of_ble_eq_true rfl⟩) hK P_nil rfl hl.1 rfl (Nat.le_of_ble_eq_true rfl) dX9_breaks_11 ⟨Nat.zero_le _, Nat.zero_le _⟩ ?_
  refine lv_if_eq (tgt := 28) hx hb dX9_breaks_14 (by decide) (fun c_1 => ?_) (fun c_1 => ?_)
  · skip
    have c_1 := zb_eq0 c_1
    refine lv_bipush (v := (-2)) hx hb dX9_breaks_28 (by decide) ?_
    exact ro_iret hx hb hr hlocks (by show ((-2) : Int32) = jXbreaks N pb t zf ro x; unfold jXbreaks; (first | rw [if_pos c_1] | rw [if_neg c_1] | skip)) dX9_breaks_30
  · skip
    have c_1 := zb_ne0 c_1
    obtain ⟨j, hj, ej⟩ := ix_of (n := t.1) c_1 (by omega)
    have hl : lv_has ls 2 [(0, .ref (a 0)), (1, .int (nI j))] := by rw [← ej]; exact hl
    rw [ej] at c_1
    refine lv_aload_n hx hb dX9_breaks_17 rfl (lv_at hl 0 rfl) ?_
    refine va_get (D := D) (ci := 9) (v := .ref (a 36)) (C := RX9) (T := TX9) (N := 8) hx hb hts hin9 hown hK.1 hP 0 rfl rfl 5 (by decide) (hts _ fl_X9_55) (fun _ h9 => h9) rfl dX9_breaks_18 ?_
    refine lv_iload_n hx hb dX9_breaks_21 rfl (lv_at hl 1 rfl) ?_
    refine ro_V (As := [.int (nI j)]) (rest := []) ⟨hx, hb, hml, hown, hts⟩ (c_X7_faultsOf l D cI cZ a t ht6 zf hzf ro hr10 N pb hN16 j hj ) (cw_X9_204 hts rfl rfl ⟨Nat.le_of_ble_eq_true rfl, Nat.le_of_ble_eq_true rfl⟩) hK (((wP_tr hP).app (wP_rt hP)).app (wP_net hP)) (ci := 7) rfl rfl rfl hl.1 rfl (Nat.le_of_ble_eq_true rfl) dX9_breaks_22 ⟨Nat.zero_le _, Nat.zero_le _⟩ ?_
    refine lv_goto (tgt := 30) hx hb dX9_breaks_25 (by decide) ?_
    exact ro_iret hx hb hr hlocks (by show ((jFt N pb t zf ro j) : Int32) = jXbreaks N pb t zf ro x; unfold jXbreaks; rw [ej, nI_cl (by omega)]; (first | rw [if_pos c_1] | rw [if_neg c_1] | skip)) dX9_breaks_30
