def jXwalk (S : TS) (sb : Nat → Int32) (q : TQ) (N : TN) (pb : Nat → Int32) (w : Nat × (Nat → Int32) × Int32 × Int32) (x y : Int32) : Int32 × (Nat × (Nat → Int32) × Int32 × Int32) :=
  if 0 ≤ x ∧ x ≤ 9 then if 0 ≤ y ∧ y ≤ 3 then (jWt (jWalk S sb q N pb w.2.1 x) y, (jWalk S sb q N pb w.2.1 x)) else (-3, w) else (-2, w)
set_option maxHeartbeats 4000000 in
set_option maxRecDepth 100000 in
theorem c_X9_walk (l : Launch) (D : va_G) (cI cZ : ClassId) (a : Nat → Nat) (N : TN) (pb : Nat → Int32) (hN16 : N_n N ≤ 16) (S : TS) (sb : Nat → Int32) (q : TQ) (hS24 : S_n S ≤ 24) (w : Nat × (Nat → Int32) × Int32 × Int32) (hw : w.1 ≤ 31) (o : TO) (wy : Nat → Int32) (ho8 : o.1 ≤ 8) (ro : TR) (hr10 : ro.1 ≤ 10) (t : TT) (ht6 : t.1 ≤ 6) (zf : Nat → Nat) (hzf : ∀ i, i < t.1 → t.2.2.1 i = nI (zf i) ∧ zf i ≤ 6) (fo : TF) (tr be : Nat → Int32) (hf5 : fo.1 ≤ 5) (k : TC) (hk8 : k.2.1 ≤ 8) (x y : Int32) : MI l D cI cZ yX9_walk wyX9_walk ({ frames := 5, cells := 0, slots := 0, locals := 120 } : Room) [.ref (a 0), .int x, .int y] (wX a cI N pb S sb q w o wy ro t fo tr be k) (fun r u => (r, u) = jXwalk S sb q N pb w x y) (fun (u : Nat × (Nat → Int32) × Int32 × Int32) => wX a cI N pb S sb q u o wy ro t fo tr be k) := by
  refine Met.ofW (cc := cX9_walk) (maxL := 3) (ret := (some .int)) (by decide) rfl ?_
  intro p e s m args below meth c s₁ B hml hv
  obtain ⟨rfl, hK, hP, hD0⟩ := hv
  have hx := B.exec
  have hb := B.bytes
  have hr := B.returns
  have hts0 := atoms_spec (ws := wyX9_walk) B.pre
  have hts : ∀ w ∈ big, w.before _ s = true := fun w h => hts0 w (List.mem_cons_of_mem _ h)
  have hown : s.vm.findClass RX9 = some m.cls := findClass_of_methodNamed B.named
  have hlocks := B.notSynchronized
  have hD := D_inW hD0
  have hS : va_S (inW (wX a cI N pb S sb q w o wy ro t fo tr be k)) s.heap s.heap [] := va_S.rf
  have hl := lv_entry ([.ref (a 0), .int x, .int y]) (n := 3) (Nat.le_of_ble_eq_true rfl)
  rw [lg_entry_eq]
  generalize (lg_sl ([.ref (a 0), .int x, .int y]) ++ List.replicate (3 - (lg_sl ([.ref (a 0), .int x, .int y])).length) Slot.unset).toArray = ls at hl ⊢
  have hl : lv_has ls 3 [(0, .ref (a 0)), (1, .int x), (2, .int y)] := hl
  refine lv_iload_n hx hb dX9_walk_0 rfl (lv_at hl 1 rfl) ?_
  refine ro_S (As := [.int x]) (rest := []) ⟨hx, hb, hml, hown, hts⟩ (c_X9_isPlace l D cI cZ  x) (cw_X9_73 hts rfl rfl ⟨Nat.le_of_ble_eq_true rfl, Nat.le_of_ble_eq_true rfl⟩) hK P_nil rfl hl.1 rfl (Nat.le_of_ble_eq_true rfl) dX9_walk_1 ⟨Nat.zero_le _, Nat.zero_le _⟩ ?_
  refine lv_if_ne (tgt := 10) hx hb dX9_walk_4 (by decide) (fun c_1 => ?_) (fun c_1 => ?_)
  · skip
    have c_1 := zb_ne0 c_1
    refine lv_iload_n hx hb dX9_walk_10 rfl (lv_at hl 2 rfl) ?_
    refine lv_iconst (v := 0) hx hb dX9_walk_11 (by decide) ?_
    refine lv_iconst (v := 3) hx hb dX9_walk_12 (by decide) ?_
    refine ro_S (As := [.int y, .int 0, .int 3]) (rest := []) ⟨hx, hb, hml, hown, hts⟩ (c_X9_isWithin l D cI cZ  y 0 3) (cw_X9_77 hts rfl rfl ⟨Nat.le_of_ble_eq_true rfl, Nat.le_of_ble_eq_true rfl⟩) hK P_nil rfl hl.1 rfl (Nat.le_of_ble_eq_true rfl) dX9_walk_13 ⟨Nat.zero_le _, Nat.zero_le _⟩ ?_
    refine lv_if_ne (tgt := 22) hx hb dX9_walk_16 (by decide) (fun c_2 => ?_) (fun c_2 => ?_)
    · skip
      have c_2 := zb_ne0 c_2
      refine lv_aload_n hx hb dX9_walk_22 rfl (lv_at hl 0 rfl) ?_
      refine va_get (D := D) (ci := 9) (v := .ref (a 25)) (C := RX9) (T := TX9) (N := 8) hx hb hts hin9 hown hK.1 hP 0 rfl rfl 2 (by decide) (hts _ fl_X9_30) (fun _ h9 => h9) rfl dX9_walk_23 ?_
      refine lv_iload_n hx hb dX9_walk_26 rfl (lv_at hl 1 rfl) ?_
      refine mv_F (As := [.int x]) (rest := []) ⟨hx, hb, hml, hown, hts⟩ (c_X8_goFrom l D cI cZ a w hw S sb q hS24 N pb hN16 x) (cw_X9_153 hts rfl rfl ⟨Nat.le_of_ble_eq_true rfl, Nat.le_of_ble_eq_true rfl⟩) hK (wP_wk hP) (wD_wk hD) hS (ci := 8) rfl rfl rfl hl.1 rfl (Nat.le_of_ble_eq_true rfl) dX9_walk_27 ⟨Nat.zero_le _, Nat.zero_le _⟩ (fun u H1 locs hp hP1 hk9 hS => ?_)
      obtain ⟨hP, hD⟩ := fX_wk hP hD (show va_P D vwCl (wWk a cI (jWalk S sb q N pb w.2.1 x) ++ wSg a cI S sb q ++ wNet a cI N pb) H1 from hP1) hk9
      clear hP1 hk9
      generalize H1 = H at hP hS ⊢
      refine lv_aload_n hx hb dX9_walk_30 rfl (lv_at hl 0 rfl) ?_
      refine va_get (D := D) (ci := 9) (v := .ref (a 25)) (C := RX9) (T := TX9) (N := 8) hx hb hts hin9 hown hK.1 hP 0 rfl rfl 2 (by decide) (hts _ fl_X9_30) (fun _ h9 => h9) rfl dX9_walk_31 ?_
      refine lv_iload_n hx hb dX9_walk_34 rfl (lv_at hl 2 rfl) ?_
      refine ro_V (As := [.int y]) (rest := []) ⟨hx, hb, hml, hown, hts⟩ (c_X8_tell l D cI cZ a (jWalk S sb q N pb w.2.1 x) jWalk_le y) (cw_X9_157 hts rfl rfl ⟨Nat.le_of_ble_eq_true rfl, Nat.le_of_ble_eq_true rfl⟩) hK (wP_wk1 hP) (ci := 8) rfl rfl rfl hl.1 rfl (Nat.le_of_ble_eq_true rfl) dX9_walk_35 ⟨Nat.zero_le _, Nat.zero_le _⟩ ?_
      exact mu_iret (v := (jWt (jWalk S sb q N pb w.2.1 x) y)) hx hb hr hlocks ((jWalk S sb q N pb w.2.1 x)) (by show (((jWt (jWalk S sb q N pb w.2.1 x) y) : Int32), (jWalk S sb q N pb w.2.1 x)) = jXwalk S sb q N pb w x y; unfold jXwalk; (first | rw [if_pos c_1] | rw [if_neg c_1] | skip); (first | rw [if_pos c_2] | rw [if_neg c_2] | skip)) (hP) hS dX9_walk_38
    · skip
      have c_2 := zb_eq0 c_2
      refine lv_bipush (v := (-3)) hx hb dX9_walk_19 (by decide) ?_
      exact mu_iret (v := (-3)) hx hb hr hlocks (w) (by show (((-3) : Int32), w) = jXwalk S sb q N pb w x y; unfold jXwalk; (first | rw [if_pos c_1] | rw [if_neg c_1] | skip); (first | rw [if_pos c_2] | rw [if_neg c_2] | skip)) (hP) hS dX9_walk_21
  · skip
    have c_1 := zb_eq0 c_1
    refine lv_bipush (v := (-2)) hx hb dX9_walk_7 (by decide) ?_
    exact mu_iret (v := (-2)) hx hb hr hlocks (w) (by show (((-2) : Int32), w) = jXwalk S sb q N pb w x y; unfold jXwalk; (first | rw [if_pos c_1] | rw [if_neg c_1] | skip)) (hP) hS dX9_walk_9

def jXwalked (S : TS) (sb : Nat → Int32) (q : TQ) (N : TN) (pb : Nat → Int32) (w : Nat × (Nat → Int32) × Int32 × Int32) (x y : Int32) : Int32 × (Nat × (Nat → Int32) × Int32 × Int32) :=
  if 0 ≤ x ∧ x ≤ 9 then if 0 ≤ y then (rg (jWalk S sb q N pb w.2.1 x).1 (jWalk S sb q N pb w.2.1 x).2.1 y, (jWalk S sb q N pb w.2.1 x)) else (-3, w) else (-2, w)
set_option maxHeartbeats 4000000 in
set_option maxRecDepth 100000 in
theorem c_X9_walked (l : Launch) (D : va_G) (cI cZ : ClassId) (a : Nat → Nat) (N : TN) (pb : Nat → Int32) (hN16 : N_n N ≤ 16) (S : TS) (sb : Nat → Int32) (q : TQ) (hS24 : S_n S ≤ 24) (w : Nat × (Nat → Int32) × Int32 × Int32) (hw : w.1 ≤ 31) (o : TO) (wy : Nat → Int32) (ho8 : o.1 ≤ 8) (ro : TR) (hr10 : ro.1 ≤ 10) (t : TT) (ht6 : t.1 ≤ 6) (zf : Nat → Nat) (hzf : ∀ i, i < t.1 → t.2.2.1 i = nI (zf i) ∧ zf i ≤ 6) (fo : TF) (tr be : Nat → Int32) (hf5 : fo.1 ≤ 5) (k : TC) (hk8 : k.2.1 ≤ 8) (x y : Int32) : MI l D cI cZ yX9_walked wyX9_walked ({ frames := 5, cells := 0, slots := 0, locals := 120 } : Room) [.ref (a 0), .int x, .int y] (wX a cI N pb S sb q w o wy ro t fo tr be k) (fun r u => (r, u) = jXwalked S sb q N pb w x y) (fun (u : Nat × (Nat → Int32) × Int32 × Int32) => wX a cI N pb S sb q u o wy ro t fo tr be k) := by
  refine Met.ofW (cc := cX9_walked) (maxL := 3) (ret := (some .int)) (by decide) rfl ?_
  intro p e s m args below meth c s₁ B hml hv
  obtain ⟨rfl, hK, hP, hD0⟩ := hv
  have hx := B.exec
  have hb := B.bytes
  have hr := B.returns
  have hts0 := atoms_spec (ws := wyX9_walked) B.pre
  have hts : ∀ w ∈ big, w.before _ s = true := fun w h => hts0 w (List.mem_cons_of_mem _ h)
  have hown : s.vm.findClass RX9 = some m.cls := findClass_of_methodNamed B.named
  have hlocks := B.notSynchronized
  have hD := D_inW hD0
  have hS : va_S (inW (wX a cI N pb S sb q w o wy ro t fo tr be k)) s.heap s.heap [] := va_S.rf
  have hl := lv_entry ([.ref (a 0), .int x, .int y]) (n := 3) (Nat.le_of_ble_eq_true rfl)
  rw [lg_entry_eq]
  generalize (lg_sl ([.ref (a 0), .int x, .int y]) ++ List.replicate (3 - (lg_sl ([.ref (a 0), .int x, .int y])).length) Slot.unset).toArray = ls at hl ⊢
  have hl : lv_has ls 3 [(0, .ref (a 0)), (1, .int x), (2, .int y)] := hl
  refine lv_iload_n hx hb dX9_walked_0 rfl (lv_at hl 1 rfl) ?_
  refine ro_S (As := [.int x]) (rest := []) ⟨hx, hb, hml, hown, hts⟩ (c_X9_isPlace l D cI cZ  x) (cw_X9_73 hts rfl rfl ⟨Nat.le_of_ble_eq_true rfl, Nat.le_of_ble_eq_true rfl⟩) hK P_nil rfl hl.1 rfl (Nat.le_of_ble_eq_true rfl) dX9_walked_1 ⟨Nat.zero_le _, Nat.zero_le _⟩ ?_
  refine lv_if_ne (tgt := 10) hx hb dX9_walked_4 (by decide) (fun c_1 => ?_) (fun c_1 => ?_)
  · skip
    have c_1 := zb_ne0 c_1
    refine lv_iload_n hx hb dX9_walked_10 rfl (lv_at hl 2 rfl) ?_
    refine lv_if_ge (tgt := 17) hx hb dX9_walked_11 (by decide) (fun c_2 => ?_) (fun c_2 => ?_)
    · skip
      refine lv_aload_n hx hb dX9_walked_17 rfl (lv_at hl 0 rfl) ?_
      refine va_get (D := D) (ci := 9) (v := .ref (a 25)) (C := RX9) (T := TX9) (N := 8) hx hb hts hin9 hown hK.1 hP 0 rfl rfl 2 (by decide) (hts _ fl_X9_30) (fun _ h9 => h9) rfl dX9_walked_18 ?_
      refine lv_iload_n hx hb dX9_walked_21 rfl (lv_at hl 1 rfl) ?_
      refine mv_F (As := [.int x]) (rest := []) ⟨hx, hb, hml, hown, hts⟩ (c_X8_goFrom l D cI cZ a w hw S sb q hS24 N pb hN16 x) (cw_X9_153 hts rfl rfl ⟨Nat.le_of_ble_eq_true rfl, Nat.le_of_ble_eq_true rfl⟩) hK (wP_wk hP) (wD_wk hD) hS (ci := 8) rfl rfl rfl hl.1 rfl (Nat.le_of_ble_eq_true rfl) dX9_walked_22 ⟨Nat.zero_le _, Nat.zero_le _⟩ (fun u H1 locs hp hP1 hk9 hS => ?_)
      obtain ⟨hP, hD⟩ := fX_wk hP hD (show va_P D vwCl (wWk a cI (jWalk S sb q N pb w.2.1 x) ++ wSg a cI S sb q ++ wNet a cI N pb) H1 from hP1) hk9
      clear hP1 hk9
      generalize H1 = H at hP hS ⊢
      refine lv_aload_n hx hb dX9_walked_25 rfl (lv_at hl 0 rfl) ?_
      refine va_get (D := D) (ci := 9) (v := .ref (a 25)) (C := RX9) (T := TX9) (N := 8) hx hb hts hin9 hown hK.1 hP 0 rfl rfl 2 (by decide) (hts _ fl_X9_30) (fun _ h9 => h9) rfl dX9_walked_26 ?_
      refine lv_iload_n hx hb dX9_walked_29 rfl (lv_at hl 2 rfl) ?_
      refine ro_V (As := [.int y]) (rest := []) ⟨hx, hb, hml, hown, hts⟩ (c_X8_placeBehind l D cI cZ a (jWalk S sb q N pb w.2.1 x) jWalk_le y) (cw_X9_159 hts rfl rfl ⟨Nat.le_of_ble_eq_true rfl, Nat.le_of_ble_eq_true rfl⟩) hK (wP_wk1 hP) (ci := 8) rfl rfl rfl hl.1 rfl (Nat.le_of_ble_eq_true rfl) dX9_walked_30 ⟨Nat.zero_le _, Nat.zero_le _⟩ ?_
      exact mu_iret (v := (rg (jWalk S sb q N pb w.2.1 x).1 (jWalk S sb q N pb w.2.1 x).2.1 y)) hx hb hr hlocks ((jWalk S sb q N pb w.2.1 x)) (by show (((rg (jWalk S sb q N pb w.2.1 x).1 (jWalk S sb q N pb w.2.1 x).2.1 y) : Int32), (jWalk S sb q N pb w.2.1 x)) = jXwalked S sb q N pb w x y; unfold jXwalked; (first | rw [if_pos c_1] | rw [if_neg c_1] | skip); (first | rw [if_pos c_2] | rw [if_neg c_2] | skip)) (hP) hS dX9_walked_33
    · skip
      refine lv_bipush (v := (-3)) hx hb dX9_walked_14 (by decide) ?_
      exact mu_iret (v := (-3)) hx hb hr hlocks (w) (by show (((-3) : Int32), w) = jXwalked S sb q N pb w x y; unfold jXwalked; (first | rw [if_pos c_1] | rw [if_neg c_1] | skip); (first | rw [if_pos c_2] | rw [if_neg c_2] | skip)) (hP) hS dX9_walked_16
  · skip
    have c_1 := zb_eq0 c_1
    refine lv_bipush (v := (-2)) hx hb dX9_walked_7 (by decide) ?_
    exact mu_iret (v := (-2)) hx hb hr hlocks (w) (by show (((-2) : Int32), w) = jXwalked S sb q N pb w x y; unfold jXwalked; (first | rw [if_pos c_1] | rw [if_neg c_1] | skip)) (hP) hS dX9_walked_9

def jXnote (o : TO) (x : Int32) : Int32 × TO := if -1 ≤ x ∧ x ≤ 15 then if nI o.1 < 8 then (nI (o.1 + 1), (o.1 + 1, upd o.2 o.1 x)) else (-5, o) else (-3, o)
set_option maxHeartbeats 4000000 in
set_option maxRecDepth 100000 in
theorem c_X9_note (l : Launch) (D : va_G) (cI cZ : ClassId) (a : Nat → Nat) (N : TN) (pb : Nat → Int32) (hN16 : N_n N ≤ 16) (S : TS) (sb : Nat → Int32) (q : TQ) (hS24 : S_n S ≤ 24) (w : Nat × (Nat → Int32) × Int32 × Int32) (hw : w.1 ≤ 31) (o : TO) (wy : Nat → Int32) (ho8 : o.1 ≤ 8) (ro : TR) (hr10 : ro.1 ≤ 10) (t : TT) (ht6 : t.1 ≤ 6) (zf : Nat → Nat) (hzf : ∀ i, i < t.1 → t.2.2.1 i = nI (zf i) ∧ zf i ≤ 6) (fo : TF) (tr be : Nat → Int32) (hf5 : fo.1 ≤ 5) (k : TC) (hk8 : k.2.1 ≤ 8) (x : Int32) : MI l D cI cZ yX9_note wyX9_note ({ frames := 2, cells := 0, slots := 0, locals := 42 } : Room) [.ref (a 0), .int x] (wX a cI N pb S sb q w o wy ro t fo tr be k) (fun r u => (r, u) = jXnote o x) (fun (u : TO) => wX a cI N pb S sb q w u wy ro t fo tr be k) := by
  refine Met.ofW (cc := cX9_note) (maxL := 2) (ret := (some .int)) (by decide) rfl ?_
  intro p e s m args below meth c s₁ B hml hv
  obtain ⟨rfl, hK, hP, hD0⟩ := hv
  have hx := B.exec
  have hb := B.bytes
  have hr := B.returns
  have hts0 := atoms_spec (ws := wyX9_note) B.pre
  have hts : ∀ w ∈ big, w.before _ s = true := fun w h => hts0 w (List.mem_cons_of_mem _ h)
  have hown : s.vm.findClass RX9 = some m.cls := findClass_of_methodNamed B.named
  have hlocks := B.notSynchronized
  have hD := D_inW hD0
  have hS : va_S (inW (wX a cI N pb S sb q w o wy ro t fo tr be k)) s.heap s.heap [] := va_S.rf
  have hl := lv_entry ([.ref (a 0), .int x]) (n := 2) (Nat.le_of_ble_eq_true rfl)
  rw [lg_entry_eq]
  generalize (lg_sl ([.ref (a 0), .int x]) ++ List.replicate (2 - (lg_sl ([.ref (a 0), .int x])).length) Slot.unset).toArray = ls at hl ⊢
  have hl : lv_has ls 2 [(0, .ref (a 0)), (1, .int x)] := hl
  refine lv_iload_n hx hb dX9_note_0 rfl (lv_at hl 1 rfl) ?_
  refine lv_iconst (v := (-1)) hx hb dX9_note_1 (by decide) ?_
  refine lv_bipush (v := 15) hx hb dX9_note_2 (by decide) ?_
  refine ro_S (As := [.int x, .int (-1), .int 15]) (rest := []) ⟨hx, hb, hml, hown, hts⟩ (c_X9_isWithin l D cI cZ  x (-1) 15) (cw_X9_77 hts rfl rfl ⟨Nat.le_of_ble_eq_true rfl, Nat.le_of_ble_eq_true rfl⟩) hK P_nil rfl hl.1 rfl (Nat.le_of_ble_eq_true rfl) dX9_note_4 ⟨Nat.zero_le _, Nat.zero_le _⟩ ?_
  refine lv_if_ne (tgt := 13) hx hb dX9_note_7 (by decide) (fun c_1 => ?_) (fun c_1 => ?_)
  · skip
    have c_1 := zb_ne0 c_1
    refine lv_aload_n hx hb dX9_note_13 rfl (lv_at hl 0 rfl) ?_
    refine va_get (D := D) (ci := 9) (v := .ref (a 28)) (C := RX9) (T := TX9) (N := 8) hx hb hts hin9 hown hK.1 hP 0 rfl rfl 3 (by decide) (hts _ fl_X9_37) (fun _ h9 => h9) rfl dX9_note_14 ?_
    refine ro_V (As := []) (rest := []) ⟨hx, hb, hml, hown, hts⟩ (c_X3_noteCount l D cI cZ a o wy ho8) (cw_X9_162 hts rfl rfl ⟨Nat.le_of_ble_eq_true rfl, Nat.le_of_ble_eq_true rfl⟩) hK (wP_nt1 hP) (ci := 3) rfl rfl rfl hl.1 rfl (Nat.le_of_ble_eq_true rfl) dX9_note_17 ⟨Nat.zero_le _, Nat.zero_le _⟩ ?_
    refine lv_bipush (v := 8) hx hb dX9_note_20 (by decide) ?_
    refine lv_icmp_lt (tgt := 30) hx hb dX9_note_22 (by decide) (fun c_2 => ?_) (fun c_2 => ?_)
    · skip
      have hb9 : o.1 < 8 := by have h9 := c_2; rw [show (8 : Int32) = nI 8 from rfl, nI_ltI (by omega) (by omega)] at h9; exact h9
      refine lv_aload_n hx hb dX9_note_30 rfl (lv_at hl 0 rfl) ?_
      refine va_get (D := D) (ci := 9) (v := .ref (a 28)) (C := RX9) (T := TX9) (N := 8) hx hb hts hin9 hown hK.1 hP 0 rfl rfl 3 (by decide) (hts _ fl_X9_37) (fun _ h9 => h9) rfl dX9_note_31 ?_
      refine lv_iload_n hx hb dX9_note_34 rfl (lv_at hl 1 rfl) ?_
      refine mi_F (As := [.int x]) (rest := []) ⟨hx, hb, hml, hown, hts⟩ (c_X3_takeDown l D cI cZ a o wy hb9 x) (cw_X9_165 hts rfl rfl ⟨Nat.le_of_ble_eq_true rfl, Nat.le_of_ble_eq_true rfl⟩) hK (wP_nt1 hP) (wD_nt1 hD) hS (ci := 3) rfl rfl rfl hl.1 rfl (Nat.le_of_ble_eq_true rfl) dX9_note_35 ⟨Nat.zero_le _, Nat.zero_le _⟩ (fun r u H1 locs hp hP1 hk9 hS => ?_)
      obtain ⟨hP, hD⟩ := fX_nt1 hP hD (show va_P D vwCl (wNt a cI (o.1 + 1, upd o.2 o.1 x) wy) H1 from hP1) hk9
      clear hP1 hk9
      generalize H1 = H at hP hS ⊢
      have hp : r = nI (o.1 + 1) := hp
      subst hp
      exact mu_iret (v := (nI (o.1 + 1))) hx hb hr hlocks ((o.1 + 1, upd o.2 o.1 x)) (by show (((nI (o.1 + 1)) : Int32), (o.1 + 1, upd o.2 o.1 x)) = jXnote o x; unfold jXnote; (first | rw [if_pos c_1] | rw [if_neg c_1] | skip); (first | rw [if_pos c_2] | rw [if_neg c_2] | skip)) (hP) hS dX9_note_38
    · skip
      refine lv_bipush (v := (-5)) hx hb dX9_note_25 (by decide) ?_
      refine lv_goto (tgt := 38) hx hb dX9_note_27 (by decide) ?_
      exact mu_iret (v := (-5)) hx hb hr hlocks (o) (by show (((-5) : Int32), o) = jXnote o x; unfold jXnote; (first | rw [if_pos c_1] | rw [if_neg c_1] | skip); (first | rw [if_pos c_2] | rw [if_neg c_2] | skip)) (hP) hS dX9_note_38
  · skip
    have c_1 := zb_eq0 c_1
    refine lv_bipush (v := (-3)) hx hb dX9_note_10 (by decide) ?_
    exact mu_iret (v := (-3)) hx hb hr hlocks (o) (by show (((-3) : Int32), o) = jXnote o x; unfold jXnote; (first | rw [if_pos c_1] | rw [if_neg c_1] | skip)) (hP) hS dX9_note_12

def jXforget (o : TO) : Int32 × TO := (nI o.1, (0, o.2))
set_option maxHeartbeats 4000000 in
set_option maxRecDepth 100000 in
theorem c_X9_forget (l : Launch) (D : va_G) (cI cZ : ClassId) (a : Nat → Nat) (N : TN) (pb : Nat → Int32) (hN16 : N_n N ≤ 16) (S : TS) (sb : Nat → Int32) (q : TQ) (hS24 : S_n S ≤ 24) (w : Nat × (Nat → Int32) × Int32 × Int32) (hw : w.1 ≤ 31) (o : TO) (wy : Nat → Int32) (ho8 : o.1 ≤ 8) (ro : TR) (hr10 : ro.1 ≤ 10) (t : TT) (ht6 : t.1 ≤ 6) (zf : Nat → Nat) (hzf : ∀ i, i < t.1 → t.2.2.1 i = nI (zf i) ∧ zf i ≤ 6) (fo : TF) (tr be : Nat → Int32) (hf5 : fo.1 ≤ 5) (k : TC) (hk8 : k.2.1 ≤ 8) : MI l D cI cZ yX9_forget wyX9_forget ({ frames := 2, cells := 0, slots := 0, locals := 41 } : Room) [.ref (a 0)] (wX a cI N pb S sb q w o wy ro t fo tr be k) (fun r u => (r, u) = jXforget o) (fun (u : TO) => wX a cI N pb S sb q w u wy ro t fo tr be k) := by
  refine Met.ofW (cc := cX9_forget) (maxL := 1) (ret := (some .int)) (by decide) rfl ?_
  intro p e s m args below meth c s₁ B hml hv
  obtain ⟨rfl, hK, hP, hD0⟩ := hv
  have hx := B.exec
  have hb := B.bytes
  have hr := B.returns
  have hts0 := atoms_spec (ws := wyX9_forget) B.pre
  have hts : ∀ w ∈ big, w.before _ s = true := fun w h => hts0 w (List.mem_cons_of_mem _ h)
  have hown : s.vm.findClass RX9 = some m.cls := findClass_of_methodNamed B.named
  have hlocks := B.notSynchronized
  have hD := D_inW hD0
  have hS : va_S (inW (wX a cI N pb S sb q w o wy ro t fo tr be k)) s.heap s.heap [] := va_S.rf
  have hl := lv_entry ([.ref (a 0)]) (n := 1) (Nat.le_of_ble_eq_true rfl)
  rw [lg_entry_eq]
  generalize (lg_sl ([.ref (a 0)]) ++ List.replicate (1 - (lg_sl ([.ref (a 0)])).length) Slot.unset).toArray = ls at hl ⊢
  have hl : lv_has ls 1 [(0, .ref (a 0))] := hl
  refine lv_aload_n hx hb dX9_forget_0 rfl (lv_at hl 0 rfl) ?_
  refine va_get (D := D) (ci := 9) (v := .ref (a 28)) (C := RX9) (T := TX9) (N := 8) hx hb hts hin9 hown hK.1 hP 0 rfl rfl 3 (by decide) (hts _ fl_X9_37) (fun _ h9 => h9) rfl dX9_forget_1 ?_
  refine mi_F (As := []) (rest := []) ⟨hx, hb, hml, hown, hts⟩ (c_X3_dropAll l D cI cZ a o wy ho8) (cw_X9_168 hts rfl rfl ⟨Nat.le_of_ble_eq_true rfl, Nat.le_of_ble_eq_true rfl⟩) hK (wP_nt1 hP) (wD_nt1 hD) hS (ci := 3) rfl rfl rfl hl.1 rfl (Nat.le_of_ble_eq_true rfl) dX9_forget_4 ⟨Nat.zero_le _, Nat.zero_le _⟩ (fun r u H1 locs hp hP1 hk9 hS => ?_)
  obtain ⟨hP, hD⟩ := fX_nt1 hP hD (show va_P D vwCl (wNt a cI (0, o.2) wy) H1 from hP1) hk9
  clear hP1 hk9
  generalize H1 = H at hP hS ⊢
  have hp : r = nI o.1 := hp
  subst hp
  exact mu_iret (v := (nI o.1)) hx hb hr hlocks ((0, o.2)) (by show (((nI o.1) : Int32), (0, o.2)) = jXforget o; unfold jXforget; rfl) (hP) hS dX9_forget_7

def jXways (S : TS) (sb : Nat → Int32) (q : TQ) (N : TN) (pb : Nat → Int32) (o : TO) (wy : Nat → Int32) (x : Int32) : Int32 × (Nat → Int32) := if 0 ≤ x ∧ x ≤ 9 then ((jWf S sb q N pb o wy x), (jWz S sb q N pb o wy)) else (-2, wy)
set_option maxHeartbeats 4000000 in
set_option maxRecDepth 100000 in
theorem c_X9_ways (l : Launch) (D : va_G) (cI cZ : ClassId) (a : Nat → Nat) (N : TN) (pb : Nat → Int32) (hN16 : N_n N ≤ 16) (S : TS) (sb : Nat → Int32) (q : TQ) (hS24 : S_n S ≤ 24) (w : Nat × (Nat → Int32) × Int32 × Int32) (hw : w.1 ≤ 31) (o : TO) (wy : Nat → Int32) (ho8 : o.1 ≤ 8) (ro : TR) (hr10 : ro.1 ≤ 10) (t : TT) (ht6 : t.1 ≤ 6) (zf : Nat → Nat) (hzf : ∀ i, i < t.1 → t.2.2.1 i = nI (zf i) ∧ zf i ≤ 6) (fo : TF) (tr be : Nat → Int32) (hf5 : fo.1 ≤ 5) (k : TC) (hk8 : k.2.1 ≤ 8) (x : Int32) : MI l D cI cZ yX9_ways wyX9_ways ({ frames := 6, cells := 0, slots := 0, locals := 140 } : Room) [.ref (a 0), .int x] (wX a cI N pb S sb q w o wy ro t fo tr be k) (fun r u => (r, u) = jXways S sb q N pb o wy x) (fun (u : Nat → Int32) => wX a cI N pb S sb q w o u ro t fo tr be k) := by
  refine Met.ofW (cc := cX9_ways) (maxL := 2) (ret := (some .int)) (by decide) rfl ?_
  intro p e s m args below meth c s₁ B hml hv
  obtain ⟨rfl, hK, hP, hD0⟩ := hv
  have hx := B.exec
  have hb := B.bytes
  have hr := B.returns
  have hts0 := atoms_spec (ws := wyX9_ways) B.pre
  have hts : ∀ w ∈ big, w.before _ s = true := fun w h => hts0 w (List.mem_cons_of_mem _ h)
  have hown : s.vm.findClass RX9 = some m.cls := findClass_of_methodNamed B.named
  have hlocks := B.notSynchronized
  have hD := D_inW hD0
  have hS : va_S (inW (wX a cI N pb S sb q w o wy ro t fo tr be k)) s.heap s.heap [] := va_S.rf
  have hl := lv_entry ([.ref (a 0), .int x]) (n := 2) (Nat.le_of_ble_eq_true rfl)
  rw [lg_entry_eq]
  generalize (lg_sl ([.ref (a 0), .int x]) ++ List.replicate (2 - (lg_sl ([.ref (a 0), .int x])).length) Slot.unset).toArray = ls at hl ⊢
  have hl : lv_has ls 2 [(0, .ref (a 0)), (1, .int x)] := hl
  refine lv_iload_n hx hb dX9_ways_0 rfl (lv_at hl 1 rfl) ?_
  refine ro_S (As := [.int x]) (rest := []) ⟨hx, hb, hml, hown, hts⟩ (c_X9_isPlace l D cI cZ  x) (cw_X9_73 hts rfl rfl ⟨Nat.le_of_ble_eq_true rfl, Nat.le_of_ble_eq_true rfl⟩) hK P_nil rfl hl.1 rfl (Nat.le_of_ble_eq_true rfl) dX9_ways_1 ⟨Nat.zero_le _, Nat.zero_le _⟩ ?_
  refine lv_if_eq (tgt := 18) hx hb dX9_ways_4 (by decide) (fun c_1 => ?_) (fun c_1 => ?_)
  · skip
    have c_1 := zb_eq0 c_1
    refine lv_bipush (v := (-2)) hx hb dX9_ways_18 (by decide) ?_
    exact mu_iret (v := (-2)) hx hb hr hlocks (wy) (by show (((-2) : Int32), wy) = jXways S sb q N pb o wy x; unfold jXways; (first | rw [if_pos c_1] | rw [if_neg c_1] | skip)) (hP) hS dX9_ways_20
  · skip
    have c_1 := zb_ne0 c_1
    refine lv_aload_n hx hb dX9_ways_7 rfl (lv_at hl 0 rfl) ?_
    refine va_get (D := D) (ci := 9) (v := .ref (a 28)) (C := RX9) (T := TX9) (N := 8) hx hb hts hin9 hown hK.1 hP 0 rfl rfl 3 (by decide) (hts _ fl_X9_37) (fun _ h9 => h9) rfl dX9_ways_8 ?_
    refine lv_iload_n hx hb dX9_ways_11 rfl (lv_at hl 1 rfl) ?_
    refine mi_F (As := [.int x]) (rest := []) ⟨hx, hb, hml, hown, hts⟩ (c_X3_waysFrom l D cI cZ a o wy ho8 S sb q hS24 N pb hN16 x) (cw_X9_171 hts rfl rfl ⟨Nat.le_of_ble_eq_true rfl, Nat.le_of_ble_eq_true rfl⟩) hK (wP_nt hP) (wD_nt hD) hS (ci := 3) rfl rfl rfl hl.1 rfl (Nat.le_of_ble_eq_true rfl) dX9_ways_12 ⟨Nat.zero_le _, Nat.zero_le _⟩ (fun r u H1 locs hp hP1 hk9 hS => ?_)
    obtain ⟨hP, hD⟩ := fX_nt hP hD (show va_P D vwCl (wNt a cI o u ++ wSg a cI S sb q ++ wNet a cI N pb) H1 from hP1) hk9
    clear hP1 hk9
    generalize H1 = H at hP hS ⊢
    obtain ⟨hp1, hp2⟩ := hp
    subst hp1
    subst hp2
    refine lv_goto (tgt := 20) hx hb dX9_ways_15 (by decide) ?_
    exact mu_iret (v := (jWf S sb q N pb o wy x)) hx hb hr hlocks ((jWz S sb q N pb o wy)) (by show (((jWf S sb q N pb o wy x) : Int32), (jWz S sb q N pb o wy)) = jXways S sb q N pb o wy x; unfold jXways; (first | rw [if_pos c_1] | rw [if_neg c_1] | skip)) (hP) hS dX9_ways_20

def jXonly (S : TS) (sb : Nat → Int32) (q : TQ) (N : TN) (pb : Nat → Int32) (o : TO) (wy : Nat → Int32) (x y : Int32) : Int32 × (Nat → Int32) := if 0 ≤ x ∧ x ≤ 9 then if 0 ≤ y then if (jWf S sb q N pb o wy x) = 1 then (jPw N pb o (jWz S sb q N pb o wy) x y, (jWz S sb q N pb o wy)) else (-1, (jWz S sb q N pb o wy)) else (-3, wy) else (-2, wy)
set_option maxHeartbeats 4000000 in
set_option maxRecDepth 100000 in
theorem c_X9_only (l : Launch) (D : va_G) (cI cZ : ClassId) (a : Nat → Nat) (N : TN) (pb : Nat → Int32) (hN16 : N_n N ≤ 16) (S : TS) (sb : Nat → Int32) (q : TQ) (hS24 : S_n S ≤ 24) (w : Nat × (Nat → Int32) × Int32 × Int32) (hw : w.1 ≤ 31) (o : TO) (wy : Nat → Int32) (ho8 : o.1 ≤ 8) (ro : TR) (hr10 : ro.1 ≤ 10) (t : TT) (ht6 : t.1 ≤ 6) (zf : Nat → Nat) (hzf : ∀ i, i < t.1 → t.2.2.1 i = nI (zf i) ∧ zf i ≤ 6) (fo : TF) (tr be : Nat → Int32) (hf5 : fo.1 ≤ 5) (k : TC) (hk8 : k.2.1 ≤ 8) (x y : Int32) : MI l D cI cZ yX9_only wyX9_only ({ frames := 6, cells := 0, slots := 0, locals := 140 } : Room) [.ref (a 0), .int x, .int y] (wX a cI N pb S sb q w o wy ro t fo tr be k) (fun r u => (r, u) = jXonly S sb q N pb o wy x y) (fun (u : Nat → Int32) => wX a cI N pb S sb q w o u ro t fo tr be k) := by
  refine Met.ofW (cc := cX9_only) (maxL := 3) (ret := (some .int)) (by decide) rfl ?_
  intro p e s m args below meth c s₁ B hml hv
  obtain ⟨rfl, hK, hP, hD0⟩ := hv
  have hx := B.exec
  have hb := B.bytes
  have hr := B.returns
  have hts0 := atoms_spec (ws := wyX9_only) B.pre
  have hts : ∀ w ∈ big, w.before _ s = true := fun w h => hts0 w (List.mem_cons_of_mem _ h)
  have hown : s.vm.findClass RX9 = some m.cls := findClass_of_methodNamed B.named
  have hlocks := B.notSynchronized
  have hD := D_inW hD0
  have hS : va_S (inW (wX a cI N pb S sb q w o wy ro t fo tr be k)) s.heap s.heap [] := va_S.rf
  have hl := lv_entry ([.ref (a 0), .int x, .int y]) (n := 3) (Nat.le_of_ble_eq_true rfl)
  rw [lg_entry_eq]
  generalize (lg_sl ([.ref (a 0), .int x, .int y]) ++ List.replicate (3 - (lg_sl ([.ref (a 0), .int x, .int y])).length) Slot.unset).toArray = ls at hl ⊢
  have hl : lv_has ls 3 [(0, .ref (a 0)), (1, .int x), (2, .int y)] := hl
  refine lv_iload_n hx hb dX9_only_0 rfl (lv_at hl 1 rfl) ?_
  refine ro_S (As := [.int x]) (rest := []) ⟨hx, hb, hml, hown, hts⟩ (c_X9_isPlace l D cI cZ  x) (cw_X9_73 hts rfl rfl ⟨Nat.le_of_ble_eq_true rfl, Nat.le_of_ble_eq_true rfl⟩) hK P_nil rfl hl.1 rfl (Nat.le_of_ble_eq_true rfl) dX9_only_1 ⟨Nat.zero_le _, Nat.zero_le _⟩ ?_
  refine lv_if_ne (tgt := 10) hx hb dX9_only_4 (by decide) (fun c_1 => ?_) (fun c_1 => ?_)
  · skip
    have c_1 := zb_ne0 c_1
    refine lv_iload_n hx hb dX9_only_10 rfl (lv_at hl 2 rfl) ?_
    refine lv_if_ge (tgt := 17) hx hb dX9_only_11 (by decide) (fun c_2 => ?_) (fun c_2 => ?_)
    · skip
      refine lv_aload_n hx hb dX9_only_17 rfl (lv_at hl 0 rfl) ?_
      refine va_get (D := D) (ci := 9) (v := .ref (a 28)) (C := RX9) (T := TX9) (N := 8) hx hb hts hin9 hown hK.1 hP 0 rfl rfl 3 (by decide) (hts _ fl_X9_37) (fun _ h9 => h9) rfl dX9_only_18 ?_
      refine lv_iload_n hx hb dX9_only_21 rfl (lv_at hl 1 rfl) ?_
      refine mi_F (As := [.int x]) (rest := []) ⟨hx, hb, hml, hown, hts⟩ (c_X3_waysFrom l D cI cZ a o wy ho8 S sb q hS24 N pb hN16 x) (cw_X9_171 hts rfl rfl ⟨Nat.le_of_ble_eq_true rfl, Nat.le_of_ble_eq_true rfl⟩) hK (wP_nt hP) (wD_nt hD) hS (ci := 3) rfl rfl rfl hl.1 rfl (Nat.le_of_ble_eq_true rfl) dX9_only_22 ⟨Nat.zero_le _, Nat.zero_le _⟩ (fun r u H1 locs hp hP1 hk9 hS => ?_)
      obtain ⟨hP, hD⟩ := fX_nt hP hD (show va_P D vwCl (wNt a cI o u ++ wSg a cI S sb q ++ wNet a cI N pb) H1 from hP1) hk9
      clear hP1 hk9
      generalize H1 = H at hP hS ⊢
      obtain ⟨hp1, hp2⟩ := hp
      subst hp1
      subst hp2
      refine lv_iconst (v := 1) hx hb dX9_only_25 (by decide) ?_
      refine lv_icmp_ne (tgt := 41) hx hb dX9_only_26 (by decide) (fun c_3 => ?_) (fun c_3 => ?_)
      · skip
        refine lv_iconst (v := (-1)) hx hb dX9_only_41 (by decide) ?_
        exact mu_iret (v := (-1)) hx hb hr hlocks ((jWz S sb q N pb o wy)) (by show (((-1) : Int32), (jWz S sb q N pb o wy)) = jXonly S sb q N pb o wy x y; unfold jXonly; (first | rw [if_pos c_1] | rw [if_neg c_1] | skip); (first | rw [if_pos c_2] | rw [if_neg c_2] | skip); (first | rw [if_pos c_3] | rw [if_neg c_3] | skip)) (hP) hS dX9_only_42
      · skip
        refine lv_aload_n hx hb dX9_only_29 rfl (lv_at hl 0 rfl) ?_
        refine va_get (D := D) (ci := 9) (v := .ref (a 28)) (C := RX9) (T := TX9) (N := 8) hx hb hts hin9 hown hK.1 hP 0 rfl rfl 3 (by decide) (hts _ fl_X9_37) (fun _ h9 => h9) rfl dX9_only_30 ?_
        refine lv_iload_n hx hb dX9_only_33 rfl (lv_at hl 1 rfl) ?_
        refine lv_iload_n hx hb dX9_only_34 rfl (lv_at hl 2 rfl) ?_
        refine ro_V (As := [.int x, .int y]) (rest := []) ⟨hx, hb, hml, hown, hts⟩ (c_X3_placeOnTheWay l D cI cZ a o (jWz S sb q N pb o wy) ho8 N pb hN16 x y) (cw_X9_174 hts rfl rfl ⟨Nat.le_of_ble_eq_true rfl, Nat.le_of_ble_eq_true rfl⟩) hK ((wP_nt1 hP).app (wP_net hP)) (ci := 3) rfl rfl rfl hl.1 rfl (Nat.le_of_ble_eq_true rfl) dX9_only_35 ⟨Nat.zero_le _, Nat.zero_le _⟩ ?_
        refine lv_goto (tgt := 42) hx hb dX9_only_38 (by decide) ?_
        exact mu_iret (v := (jPw N pb o (jWz S sb q N pb o wy) x y)) hx hb hr hlocks ((jWz S sb q N pb o wy)) (by show (((jPw N pb o (jWz S sb q N pb o wy) x y) : Int32), (jWz S sb q N pb o wy)) = jXonly S sb q N pb o wy x y; unfold jXonly; (first | rw [if_pos c_1] | rw [if_neg c_1] | skip); (first | rw [if_pos c_2] | rw [if_neg c_2] | skip); (first | rw [if_pos c_3] | rw [if_neg c_3] | skip)) (hP) hS dX9_only_42
    · skip
      refine lv_bipush (v := (-3)) hx hb dX9_only_14 (by decide) ?_
      exact mu_iret (v := (-3)) hx hb hr hlocks (wy) (by show (((-3) : Int32), wy) = jXonly S sb q N pb o wy x y; unfold jXonly; (first | rw [if_pos c_1] | rw [if_neg c_1] | skip); (first | rw [if_pos c_2] | rw [if_neg c_2] | skip)) (hP) hS dX9_only_16
  · skip
    have c_1 := zb_eq0 c_1
    refine lv_bipush (v := (-2)) hx hb dX9_only_7 (by decide) ?_
    exact mu_iret (v := (-2)) hx hb hr hlocks (wy) (by show (((-2) : Int32), wy) = jXonly S sb q N pb o wy x y; unfold jXonly; (first | rw [if_pos c_1] | rw [if_neg c_1] | skip)) (hP) hS dX9_only_9
