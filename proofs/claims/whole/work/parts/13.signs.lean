def jTl (S : TS) (i w : Int32) : Int32 := if w = 0 then rg (S_n S) (S_p S) i else if w = 1 then rg (S_n S) (S_k S) i else if w = 2 then rg (S_n S) (S_v S) i else if w = 3 then rg (S_n S) (S_f S) i else if w = 4 then rg (S_n S) (S_d S) i else rg (S_n S) (S_u S) i
def jCl (S : TS) : Nat → Int32
  | 0 => 0
  | i + 1 => jCl S i + (if rg (S_n S) (S_f S) (nI i) ≤ 0 then 0 else 1)
def jSn (S : TS) (sb : Nat → Int32) (q : TQ) (N : TN) (i x k : Int32) : Bool := decide (rg (S_n S) (S_p S) i = x ∧ ¬ rg (S_n S) (S_f S) i ≤ 0 ∧ ¬ (rg (S_n S) sb i &&& (if k = -1 then 65536 else zbt k)) = 0 ∧ (k = -1 ∨ ¬ (rg (S_n S) (S_k S) i = 0 ∨ rg (S_n S) (S_k S) i = 1) ∨ q.2.2 ≤ rg (N_n N) (N_l N) k))
def jAll (S : TS) (sb : Nat → Int32) (q : TQ) (N : TN) (x k : Int32) : Nat → Int32
  | 0 => 0
  | i + 1 => jAll S sb q N x k i ||| (if jSn S sb q N (nI i) x k = true then (1 : Int32) <<< (nI i &&& 31) else 0)
def jKs (S : TS) (sb : Nat → Int32) (q : TQ) (N : TN) (x k : Int32) : Nat → Int32
  | 0 => 0
  | i + 1 => jKs S sb q N x k i ||| (if jSn S sb q N (nI i) x k = true then (1 : Int32) <<< (S_k S i &&& 31) else 0)
def jLv (S : TS) (q : TQ) (d : Int32) : Nat → (Nat → Int32)
  | 0 => S_f S
  | i + 1 => upd (jLv S q d i) i (if 0 < jLv S q d i i - (if S_k S i = 2 then d else d * ((1 : Int32) <<< (q.2.1 &&& 31))) then jLv S q d i i - (if S_k S i = 2 then d else d * ((1 : Int32) <<< (q.2.1 &&& 31))) else 0)
theorem zt_out04 (x : Int32) (h0 : ¬ x = 0) (h1 : ¬ x = 1) (h2 : ¬ x = 2) (h3 : ¬ x = 3) (h4 : ¬ x = 4) : x.toInt < 0 ∨ (4 : Int) < x.toInt := by
  have g : ∀ k : Int32, ¬ x = k → x.toInt ≠ k.toInt := fun k h e => h (Int32.toInt_inj.mp e)
  have a0 := g 0 h0; have a1 := g 1 h1; have a2 := g 2 h2; have a3 := g 3 h3; have a4 := g 4 h4
  simp at a0 a1 a2 a3 a4
  omega
theorem zt_out02 (x : Int32) (h0 : ¬ x = 0) (h1 : ¬ x = 1) (h2 : ¬ x = 2) : x.toInt < 0 ∨ (2 : Int) < x.toInt := by
  have g : ∀ k : Int32, ¬ x = k → x.toInt ≠ k.toInt := fun k h e => h (Int32.toInt_inj.mp e)
  have a0 := g 0 h0; have a1 := g 1 h1; have a2 := g 2 h2
  simp at a0 a1 a2
  omega
theorem zt_out05 (x : Int32) (h0 : ¬ x = 0) (h1 : ¬ x = 1) (h2 : ¬ x = 2) (h3 : ¬ x = 3) (h4 : ¬ x = 4) (h5 : ¬ x = 5) : x.toInt < 0 ∨ (5 : Int) < x.toInt := by
  have g : ∀ k : Int32, ¬ x = k → x.toInt ≠ k.toInt := fun k h e => h (Int32.toInt_inj.mp e)
  have a0 := g 0 h0; have a1 := g 1 h1; have a2 := g 2 h2; have a3 := g 3 h3; have a4 := g 4 h4; have a5 := g 5 h5
  simp at a0 a1 a2 a3 a4 a5
  omega
theorem zt_out07 (x : Int32) (h0 : ¬ x = 0) (h1 : ¬ x = 1) (h2 : ¬ x = 2) (h3 : ¬ x = 3) (h4 : ¬ x = 4) (h5 : ¬ x = 5) (h6 : ¬ x = 6) (h7 : ¬ x = 7) : x.toInt < 0 ∨ (7 : Int) < x.toInt := by
  have g : ∀ k : Int32, ¬ x = k → x.toInt ≠ k.toInt := fun k h e => h (Int32.toInt_inj.mp e)
  have a0 := g 0 h0; have a1 := g 1 h1; have a2 := g 2 h2; have a3 := g 3 h3; have a4 := g 4 h4; have a5 := g 5 h5; have a6 := g 6 h6; have a7 := g 7 h7
  simp at a0 a1 a2 a3 a4 a5 a6 a7
  omega
set_option maxHeartbeats 4000000 in
set_option maxRecDepth 100000 in
theorem c_X6_signCount (l : Launch) (D : va_G) (cI cZ : ClassId) (a : Nat → Nat) (S : TS) (sb : Nat → Int32) (q : TQ) (hS24 : S_n S ≤ 24) : RO l D cI cZ yX6_signCount wyX6_signCount ({ frames := 1, cells := 0, slots := 0, locals := 20 } : Room) [.ref (a 10)] (wSg a cI S sb q) (nI (S_n S)) := by
  refine Met.ofW (cc := cX6_signCount) (maxL := 1) (ret := (some .int)) (by decide) rfl ?_
  intro p e s m args below meth c s₁ B hml hv
  obtain ⟨rfl, hK, hP⟩ := hv
  have hx := B.exec
  have hb := B.bytes
  have hr := B.returns
  have hts0 := atoms_spec (ws := wyX6_signCount) B.pre
  have hts : ∀ w ∈ big, w.before _ s = true := fun w h => hts0 w (List.mem_cons_of_mem _ h)
  have hown : s.vm.findClass RX6 = some m.cls := findClass_of_methodNamed B.named
  have hlocks := B.notSynchronized
  have hl := lv_entry ([.ref (a 10)]) (n := 1) (Nat.le_of_ble_eq_true rfl)
  rw [lg_entry_eq]
  generalize (lg_sl ([.ref (a 10)]) ++ List.replicate (1 - (lg_sl ([.ref (a 10)])).length) Slot.unset).toArray = ls at hl ⊢
  have hl : lv_has ls 1 [(0, .ref (a 10))] := hl
  refine lv_aload_n hx hb dX6_signCount_0 rfl (lv_at hl 0 rfl) ?_
  refine va_get (D := D) (ci := 6) (v := .ref (a 11)) (C := RX6) (T := TX6) (N := 11) hx hb hts hin6 hown hK.1 hP 0 rfl rfl 1 (by decide) (hts _ fl_X6_16) (fun _ h9 => h9) rfl dX6_signCount_1 ?_
  refine ro_V (As := []) (rest := []) ⟨hx, hb, hml, hown, hts⟩ (c_X5_size l D cI cZ (a 11) (a 12) 24 (S_n S) (S_p S) hS24 (by decide)) (cw_X6_52 hts rfl rfl ⟨Nat.le_of_ble_eq_true rfl, Nat.le_of_ble_eq_true rfl⟩) hK (hP.sub [1, 2] rfl) (ci := 5) rfl rfl rfl hl.1 rfl (Nat.le_of_ble_eq_true rfl) dX6_signCount_4 ⟨Nat.zero_le _, Nat.zero_le _⟩ ?_
  exact ro_iret hx hb hr hlocks (rfl) dX6_signCount_7

set_option maxHeartbeats 4000000 in
set_option maxRecDepth 100000 in
theorem c_X6_today (l : Launch) (D : va_G) (cI cZ : ClassId) (a : Nat → Nat) (S : TS) (sb : Nat → Int32) (q : TQ) (hS24 : S_n S ≤ 24) : RO l D cI cZ yX6_today wyX6_today ({ frames := 0, cells := 0, slots := 0, locals := 0 } : Room) [.ref (a 10)] (wSg a cI S sb q) (q.1) := by
  refine Met.ofW (cc := cX6_today) (maxL := 1) (ret := (some .int)) (by decide) rfl ?_
  intro p e s m args below meth c s₁ B hml hv
  obtain ⟨rfl, hK, hP⟩ := hv
  have hx := B.exec
  have hb := B.bytes
  have hr := B.returns
  have hts0 := atoms_spec (ws := wyX6_today) B.pre
  have hts : ∀ w ∈ big, w.before _ s = true := fun w h => hts0 w (List.mem_cons_of_mem _ h)
  have hown : s.vm.findClass RX6 = some m.cls := findClass_of_methodNamed B.named
  have hlocks := B.notSynchronized
  have hl := lv_entry ([.ref (a 10)]) (n := 1) (Nat.le_of_ble_eq_true rfl)
  rw [lg_entry_eq]
  generalize (lg_sl ([.ref (a 10)]) ++ List.replicate (1 - (lg_sl ([.ref (a 10)])).length) Slot.unset).toArray = ls at hl ⊢
  have hl : lv_has ls 1 [(0, .ref (a 10))] := hl
  refine lv_aload_n hx hb dX6_today_0 rfl (lv_at hl 0 rfl) ?_
  refine va_get (D := D) (ci := 6) (v := .int q.1) (C := RX6) (T := TX6) (N := 11) hx hb hts hin6 hown hK.1 hP 0 rfl rfl 8 (by decide) (hts _ fl_X6_38) (fun _ h9 => h9) rfl dX6_today_1 ?_
  exact ro_iret hx hb hr hlocks (rfl) dX6_today_4

set_option maxHeartbeats 4000000 in
set_option maxRecDepth 100000 in
theorem c_X6_placeOf (l : Launch) (D : va_G) (cI cZ : ClassId) (a : Nat → Nat) (S : TS) (sb : Nat → Int32) (q : TQ) (hS24 : S_n S ≤ 24) (i : Int32) : RO l D cI cZ yX6_placeOf wyX6_placeOf ({ frames := 1, cells := 0, slots := 0, locals := 21 } : Room) [.ref (a 10), .int i] (wSg a cI S sb q) (rg (S_n S) (S_p S) i) := by
  refine Met.ofW (cc := cX6_placeOf) (maxL := 2) (ret := (some .int)) (by decide) rfl ?_
  intro p e s m args below meth c s₁ B hml hv
  obtain ⟨rfl, hK, hP⟩ := hv
  have hx := B.exec
  have hb := B.bytes
  have hr := B.returns
  have hts0 := atoms_spec (ws := wyX6_placeOf) B.pre
  have hts : ∀ w ∈ big, w.before _ s = true := fun w h => hts0 w (List.mem_cons_of_mem _ h)
  have hown : s.vm.findClass RX6 = some m.cls := findClass_of_methodNamed B.named
  have hlocks := B.notSynchronized
  have hl := lv_entry ([.ref (a 10), .int i]) (n := 2) (Nat.le_of_ble_eq_true rfl)
  rw [lg_entry_eq]
  generalize (lg_sl ([.ref (a 10), .int i]) ++ List.replicate (2 - (lg_sl ([.ref (a 10), .int i])).length) Slot.unset).toArray = ls at hl ⊢
  have hl : lv_has ls 2 [(0, .ref (a 10)), (1, .int i)] := hl
  refine lv_aload_n hx hb dX6_placeOf_0 rfl (lv_at hl 0 rfl) ?_
  refine va_get (D := D) (ci := 6) (v := .ref (a 11)) (C := RX6) (T := TX6) (N := 11) hx hb hts hin6 hown hK.1 hP 0 rfl rfl 1 (by decide) (hts _ fl_X6_16) (fun _ h9 => h9) rfl dX6_placeOf_1 ?_
  refine lv_iload_n hx hb dX6_placeOf_4 rfl (lv_at hl 1 rfl) ?_
  refine ro_V (As := [.int i]) (rest := []) ⟨hx, hb, hml, hown, hts⟩ (c_X5_get l D cI cZ (a 11) (a 12) 24 (S_n S) (S_p S) hS24 (by decide) i) (cw_X6_63 hts rfl rfl ⟨Nat.le_of_ble_eq_true rfl, Nat.le_of_ble_eq_true rfl⟩) hK (hP.sub [1, 2] rfl) (ci := 5) rfl rfl rfl hl.1 rfl (Nat.le_of_ble_eq_true rfl) dX6_placeOf_5 ⟨Nat.zero_le _, Nat.zero_le _⟩ ?_
  exact ro_iret hx hb hr hlocks (rfl) dX6_placeOf_8

set_option maxHeartbeats 4000000 in
set_option maxRecDepth 100000 in
theorem c_X6_kindOf (l : Launch) (D : va_G) (cI cZ : ClassId) (a : Nat → Nat) (S : TS) (sb : Nat → Int32) (q : TQ) (hS24 : S_n S ≤ 24) (i : Int32) : RO l D cI cZ yX6_kindOf wyX6_kindOf ({ frames := 1, cells := 0, slots := 0, locals := 21 } : Room) [.ref (a 10), .int i] (wSg a cI S sb q) (rg (S_n S) (S_k S) i) := by
  refine Met.ofW (cc := cX6_kindOf) (maxL := 2) (ret := (some .int)) (by decide) rfl ?_
  intro p e s m args below meth c s₁ B hml hv
  obtain ⟨rfl, hK, hP⟩ := hv
  have hx := B.exec
  have hb := B.bytes
  have hr := B.returns
  have hts0 := atoms_spec (ws := wyX6_kindOf) B.pre
  have hts : ∀ w ∈ big, w.before _ s = true := fun w h => hts0 w (List.mem_cons_of_mem _ h)
  have hown : s.vm.findClass RX6 = some m.cls := findClass_of_methodNamed B.named
  have hlocks := B.notSynchronized
  have hl := lv_entry ([.ref (a 10), .int i]) (n := 2) (Nat.le_of_ble_eq_true rfl)
  rw [lg_entry_eq]
  generalize (lg_sl ([.ref (a 10), .int i]) ++ List.replicate (2 - (lg_sl ([.ref (a 10), .int i])).length) Slot.unset).toArray = ls at hl ⊢
  have hl : lv_has ls 2 [(0, .ref (a 10)), (1, .int i)] := hl
  refine lv_aload_n hx hb dX6_kindOf_0 rfl (lv_at hl 0 rfl) ?_
  refine va_get (D := D) (ci := 6) (v := .ref (a 13)) (C := RX6) (T := TX6) (N := 11) hx hb hts hin6 hown hK.1 hP 0 rfl rfl 2 (by decide) (hts _ fl_X6_20) (fun _ h9 => h9) rfl dX6_kindOf_1 ?_
  refine lv_iload_n hx hb dX6_kindOf_4 rfl (lv_at hl 1 rfl) ?_
  refine ro_V (As := [.int i]) (rest := []) ⟨hx, hb, hml, hown, hts⟩ (c_X5_get l D cI cZ (a 13) (a 14) 24 (S_n S) (S_k S) hS24 (by decide) i) (cw_X6_63 hts rfl rfl ⟨Nat.le_of_ble_eq_true rfl, Nat.le_of_ble_eq_true rfl⟩) hK (hP.sub [3, 4] rfl) (ci := 5) rfl rfl rfl hl.1 rfl (Nat.le_of_ble_eq_true rfl) dX6_kindOf_5 ⟨Nat.zero_le _, Nat.zero_le _⟩ ?_
  exact ro_iret hx hb hr hlocks (rfl) dX6_kindOf_8

set_option maxHeartbeats 4000000 in
set_option maxRecDepth 100000 in
theorem c_X6_valueOf (l : Launch) (D : va_G) (cI cZ : ClassId) (a : Nat → Nat) (S : TS) (sb : Nat → Int32) (q : TQ) (hS24 : S_n S ≤ 24) (i : Int32) : RO l D cI cZ yX6_valueOf wyX6_valueOf ({ frames := 1, cells := 0, slots := 0, locals := 21 } : Room) [.ref (a 10), .int i] (wSg a cI S sb q) (rg (S_n S) (S_v S) i) := by
  refine Met.ofW (cc := cX6_valueOf) (maxL := 2) (ret := (some .int)) (by decide) rfl ?_
  intro p e s m args below meth c s₁ B hml hv
  obtain ⟨rfl, hK, hP⟩ := hv
  have hx := B.exec
  have hb := B.bytes
  have hr := B.returns
  have hts0 := atoms_spec (ws := wyX6_valueOf) B.pre
  have hts : ∀ w ∈ big, w.before _ s = true := fun w h => hts0 w (List.mem_cons_of_mem _ h)
  have hown : s.vm.findClass RX6 = some m.cls := findClass_of_methodNamed B.named
  have hlocks := B.notSynchronized
  have hl := lv_entry ([.ref (a 10), .int i]) (n := 2) (Nat.le_of_ble_eq_true rfl)
  rw [lg_entry_eq]
  generalize (lg_sl ([.ref (a 10), .int i]) ++ List.replicate (2 - (lg_sl ([.ref (a 10), .int i])).length) Slot.unset).toArray = ls at hl ⊢
  have hl : lv_has ls 2 [(0, .ref (a 10)), (1, .int i)] := hl
  refine lv_aload_n hx hb dX6_valueOf_0 rfl (lv_at hl 0 rfl) ?_
  refine va_get (D := D) (ci := 6) (v := .ref (a 15)) (C := RX6) (T := TX6) (N := 11) hx hb hts hin6 hown hK.1 hP 0 rfl rfl 3 (by decide) (hts _ fl_X6_23) (fun _ h9 => h9) rfl dX6_valueOf_1 ?_
  refine lv_iload_n hx hb dX6_valueOf_4 rfl (lv_at hl 1 rfl) ?_
  refine ro_V (As := [.int i]) (rest := []) ⟨hx, hb, hml, hown, hts⟩ (c_X5_get l D cI cZ (a 15) (a 16) 24 (S_n S) (S_v S) hS24 (by decide) i) (cw_X6_63 hts rfl rfl ⟨Nat.le_of_ble_eq_true rfl, Nat.le_of_ble_eq_true rfl⟩) hK (hP.sub [5, 6] rfl) (ci := 5) rfl rfl rfl hl.1 rfl (Nat.le_of_ble_eq_true rfl) dX6_valueOf_5 ⟨Nat.zero_le _, Nat.zero_le _⟩ ?_
  exact ro_iret hx hb hr hlocks (rfl) dX6_valueOf_8

set_option maxHeartbeats 4000000 in
set_option maxRecDepth 100000 in
theorem c_X6_isGone (l : Launch) (D : va_G) (cI cZ : ClassId) (a : Nat → Nat) (S : TS) (sb : Nat → Int32) (q : TQ) (hS24 : S_n S ≤ 24) (i : Int32) : RO l D cI cZ yX6_isGone wyX6_isGone ({ frames := 1, cells := 0, slots := 0, locals := 21 } : Room) [.ref (a 10), .int i] (wSg a cI S sb q) (zb (rg (S_n S) (S_f S) i ≤ 0)) := by
  refine Met.ofW (cc := cX6_isGone) (maxL := 2) (ret := (some .boolean)) (by decide) rfl ?_
  intro p e s m args below meth c s₁ B hml hv
  obtain ⟨rfl, hK, hP⟩ := hv
  have hx := B.exec
  have hb := B.bytes
  have hr := B.returns
  have hts0 := atoms_spec (ws := wyX6_isGone) B.pre
  have hts : ∀ w ∈ big, w.before _ s = true := fun w h => hts0 w (List.mem_cons_of_mem _ h)
  have hown : s.vm.findClass RX6 = some m.cls := findClass_of_methodNamed B.named
  have hlocks := B.notSynchronized
  have hl := lv_entry ([.ref (a 10), .int i]) (n := 2) (Nat.le_of_ble_eq_true rfl)
  rw [lg_entry_eq]
  generalize (lg_sl ([.ref (a 10), .int i]) ++ List.replicate (2 - (lg_sl ([.ref (a 10), .int i])).length) Slot.unset).toArray = ls at hl ⊢
  have hl : lv_has ls 2 [(0, .ref (a 10)), (1, .int i)] := hl
  refine lv_aload_n hx hb dX6_isGone_0 rfl (lv_at hl 0 rfl) ?_
  refine va_get (D := D) (ci := 6) (v := .ref (a 17)) (C := RX6) (T := TX6) (N := 11) hx hb hts hin6 hown hK.1 hP 0 rfl rfl 4 (by decide) (hts _ fl_X6_26) (fun _ h9 => h9) rfl dX6_isGone_1 ?_
  refine lv_iload_n hx hb dX6_isGone_4 rfl (lv_at hl 1 rfl) ?_
  refine ro_V (As := [.int i]) (rest := []) ⟨hx, hb, hml, hown, hts⟩ (c_X5_get l D cI cZ (a 17) (a 18) 24 (S_n S) (S_f S) hS24 (by decide) i) (cw_X6_63 hts rfl rfl ⟨Nat.le_of_ble_eq_true rfl, Nat.le_of_ble_eq_true rfl⟩) hK (hP.sub [7, 8] rfl) (ci := 5) rfl rfl rfl hl.1 rfl (Nat.le_of_ble_eq_true rfl) dX6_isGone_5 ⟨Nat.zero_le _, Nat.zero_le _⟩ ?_
  refine lv_if_gt (tgt := 15) hx hb dX6_isGone_8 (by decide) (fun c_1 => ?_) (fun c_1 => ?_)
  · skip
    refine lv_iconst (v := 0) hx hb dX6_isGone_15 (by decide) ?_
    exact ro_zret hx hb hr hlocks (nar_zb _) ((zb_f (Int32.not_le.mpr c_1)).symm) dX6_isGone_16
  · skip
    refine lv_iconst (v := 1) hx hb dX6_isGone_11 (by decide) ?_
    refine lv_goto (tgt := 16) hx hb dX6_isGone_12 (by decide) ?_
    exact ro_zret hx hb hr hlocks (nar_zb _) ((zb_t (Int32.not_lt.mp c_1)).symm) dX6_isGone_16

set_option maxHeartbeats 4000000 in
set_option maxRecDepth 100000 in
theorem c_X6_tell (l : Launch) (D : va_G) (cI cZ : ClassId) (a : Nat → Nat) (S : TS) (sb : Nat → Int32) (q : TQ) (hS24 : S_n S ≤ 24) (i w : Int32) : RO l D cI cZ yX6_tell wyX6_tell ({ frames := 2, cells := 0, slots := 0, locals := 42 } : Room) [.ref (a 10), .int i, .int w] (wSg a cI S sb q) (jTl S i w) := by
  refine Met.ofW (cc := cX6_tell) (maxL := 3) (ret := (some .int)) (by decide) rfl ?_
  intro p e s m args below meth c s₁ B hml hv
  obtain ⟨rfl, hK, hP⟩ := hv
  have hx := B.exec
  have hb := B.bytes
  have hr := B.returns
  have hts0 := atoms_spec (ws := wyX6_tell) B.pre
  have hts : ∀ w ∈ big, w.before _ s = true := fun w h => hts0 w (List.mem_cons_of_mem _ h)
  have hown : s.vm.findClass RX6 = some m.cls := findClass_of_methodNamed B.named
  have hlocks := B.notSynchronized
  have hl := lv_entry ([.ref (a 10), .int i, .int w]) (n := 3) (Nat.le_of_ble_eq_true rfl)
  rw [lg_entry_eq]
  generalize (lg_sl ([.ref (a 10), .int i, .int w]) ++ List.replicate (3 - (lg_sl ([.ref (a 10), .int i, .int w])).length) Slot.unset).toArray = ls at hl ⊢
  have hl : lv_has ls 3 [(0, .ref (a 10)), (1, .int i), (2, .int w)] := hl
  refine lv_iload_n hx hb dX6_tell_0 rfl (lv_at hl 2 rfl) ?_
  by_cases c_1_0 : w = 0
  · skip
    refine lv_tableIn (off := 35) (tgt := 36) hx hb dX6_tell_1 (by rw [c_1_0]; decide) (by rw [c_1_0]; decide) (by rw [c_1_0]; decide) (by decide) ?_
    refine lv_aload_n hx hb dX6_tell_36 rfl (lv_at hl 0 rfl) ?_
    refine lv_iload_n hx hb dX6_tell_37 rfl (lv_at hl 1 rfl) ?_
    refine ro_V (As := [.int i]) (rest := []) ⟨hx, hb, hml, hown, hts⟩ (c_X6_placeOf l D cI cZ a S sb q hS24 i) (cw_X6_83 hts rfl rfl ⟨Nat.le_of_ble_eq_true rfl, Nat.le_of_ble_eq_true rfl⟩) hK hP (ci := 6) rfl rfl rfl hl.1 rfl (Nat.le_of_ble_eq_true rfl) dX6_tell_38 ⟨Nat.zero_le _, Nat.zero_le _⟩ ?_
    exact ro_iret hx hb hr hlocks (by unfold jTl; simp [c_1_0]) dX6_tell_41
  by_cases c_1_1 : w = 1
  · skip
    refine lv_tableIn (off := 41) (tgt := 42) hx hb dX6_tell_1 (by rw [c_1_1]; decide) (by rw [c_1_1]; decide) (by rw [c_1_1]; decide) (by decide) ?_
    refine lv_aload_n hx hb dX6_tell_42 rfl (lv_at hl 0 rfl) ?_
    refine lv_iload_n hx hb dX6_tell_43 rfl (lv_at hl 1 rfl) ?_
    refine ro_V (As := [.int i]) (rest := []) ⟨hx, hb, hml, hown, hts⟩ (c_X6_kindOf l D cI cZ a S sb q hS24 i) (cw_X6_59 hts rfl rfl ⟨Nat.le_of_ble_eq_true rfl, Nat.le_of_ble_eq_true rfl⟩) hK hP (ci := 6) rfl rfl rfl hl.1 rfl (Nat.le_of_ble_eq_true rfl) dX6_tell_44 ⟨Nat.zero_le _, Nat.zero_le _⟩ ?_
    exact ro_iret hx hb hr hlocks (by unfold jTl; simp [c_1_1, c_1_0]) dX6_tell_47
  by_cases c_1_2 : w = 2
  · skip
    refine lv_tableIn (off := 47) (tgt := 48) hx hb dX6_tell_1 (by rw [c_1_2]; decide) (by rw [c_1_2]; decide) (by rw [c_1_2]; decide) (by decide) ?_
    refine lv_aload_n hx hb dX6_tell_48 rfl (lv_at hl 0 rfl) ?_
    refine lv_iload_n hx hb dX6_tell_49 rfl (lv_at hl 1 rfl) ?_
    refine ro_V (As := [.int i]) (rest := []) ⟨hx, hb, hml, hown, hts⟩ (c_X6_valueOf l D cI cZ a S sb q hS24 i) (cw_X6_80 hts rfl rfl ⟨Nat.le_of_ble_eq_true rfl, Nat.le_of_ble_eq_true rfl⟩) hK hP (ci := 6) rfl rfl rfl hl.1 rfl (Nat.le_of_ble_eq_true rfl) dX6_tell_50 ⟨Nat.zero_le _, Nat.zero_le _⟩ ?_
    exact ro_iret hx hb hr hlocks (by unfold jTl; simp [c_1_2, c_1_0, c_1_1]) dX6_tell_53
  by_cases c_1_3 : w = 3
  · skip
    refine lv_tableIn (off := 53) (tgt := 54) hx hb dX6_tell_1 (by rw [c_1_3]; decide) (by rw [c_1_3]; decide) (by rw [c_1_3]; decide) (by decide) ?_
    refine lv_aload_n hx hb dX6_tell_54 rfl (lv_at hl 0 rfl) ?_
    refine va_get (D := D) (ci := 6) (v := .ref (a 17)) (C := RX6) (T := TX6) (N := 11) hx hb hts hin6 hown hK.1 hP 0 rfl rfl 4 (by decide) (hts _ fl_X6_26) (fun _ h9 => h9) rfl dX6_tell_55 ?_
    refine lv_iload_n hx hb dX6_tell_58 rfl (lv_at hl 1 rfl) ?_
    refine ro_V (As := [.int i]) (rest := []) ⟨hx, hb, hml, hown, hts⟩ (c_X5_get l D cI cZ (a 17) (a 18) 24 (S_n S) (S_f S) hS24 (by decide) i) (cw_X6_63 hts rfl rfl ⟨Nat.le_of_ble_eq_true rfl, Nat.le_of_ble_eq_true rfl⟩) hK (hP.sub [7, 8] rfl) (ci := 5) rfl rfl rfl hl.1 rfl (Nat.le_of_ble_eq_true rfl) dX6_tell_59 ⟨Nat.zero_le _, Nat.zero_le _⟩ ?_
    exact ro_iret hx hb hr hlocks (by unfold jTl; simp [c_1_3, c_1_0, c_1_1, c_1_2]) dX6_tell_62
  by_cases c_1_4 : w = 4
  · skip
    refine lv_tableIn (off := 62) (tgt := 63) hx hb dX6_tell_1 (by rw [c_1_4]; decide) (by rw [c_1_4]; decide) (by rw [c_1_4]; decide) (by decide) ?_
    refine lv_aload_n hx hb dX6_tell_63 rfl (lv_at hl 0 rfl) ?_
    refine va_get (D := D) (ci := 6) (v := .ref (a 19)) (C := RX6) (T := TX6) (N := 11) hx hb hts hin6 hown hK.1 hP 0 rfl rfl 5 (by decide) (hts _ fl_X6_29) (fun _ h9 => h9) rfl dX6_tell_64 ?_
    refine lv_iload_n hx hb dX6_tell_67 rfl (lv_at hl 1 rfl) ?_
    refine ro_V (As := [.int i]) (rest := []) ⟨hx, hb, hml, hown, hts⟩ (c_X5_get l D cI cZ (a 19) (a 20) 24 (S_n S) (S_d S) hS24 (by decide) i) (cw_X6_63 hts rfl rfl ⟨Nat.le_of_ble_eq_true rfl, Nat.le_of_ble_eq_true rfl⟩) hK (hP.sub [9, 10] rfl) (ci := 5) rfl rfl rfl hl.1 rfl (Nat.le_of_ble_eq_true rfl) dX6_tell_68 ⟨Nat.zero_le _, Nat.zero_le _⟩ ?_
    exact ro_iret hx hb hr hlocks (by unfold jTl; simp [c_1_4, c_1_0, c_1_1, c_1_2, c_1_3]) dX6_tell_71
  refine lv_tableOut (tgt := 72) hx hb dX6_tell_1 (zt_out04 w c_1_0 c_1_1 c_1_2 c_1_3 c_1_4) (by decide) ?_
  refine lv_aload_n hx hb dX6_tell_72 rfl (lv_at hl 0 rfl) ?_
  refine va_get (D := D) (ci := 6) (v := .ref (a 21)) (C := RX6) (T := TX6) (N := 11) hx hb hts hin6 hown hK.1 hP 0 rfl rfl 6 (by decide) (hts _ fl_X6_32) (fun _ h9 => h9) rfl dX6_tell_73 ?_
  refine lv_iload_n hx hb dX6_tell_76 rfl (lv_at hl 1 rfl) ?_
  refine ro_V (As := [.int i]) (rest := []) ⟨hx, hb, hml, hown, hts⟩ (c_X5_get l D cI cZ (a 21) (a 22) 24 (S_n S) (S_u S) hS24 (by decide) i) (cw_X6_63 hts rfl rfl ⟨Nat.le_of_ble_eq_true rfl, Nat.le_of_ble_eq_true rfl⟩) hK (hP.sub [11, 12] rfl) (ci := 5) rfl rfl rfl hl.1 rfl (Nat.le_of_ble_eq_true rfl) dX6_tell_77 ⟨Nat.zero_le _, Nat.zero_le _⟩ ?_
  exact ro_iret hx hb hr hlocks (by unfold jTl; simp [c_1_0, c_1_1, c_1_2, c_1_3, c_1_4]) dX6_tell_80

set_option maxHeartbeats 4000000 in
set_option maxRecDepth 100000 in
theorem c_X6_countLeft (l : Launch) (D : va_G) (cI cZ : ClassId) (a : Nat → Nat) (S : TS) (sb : Nat → Int32) (q : TQ) (hS24 : S_n S ≤ 24) : RO l D cI cZ yX6_countLeft wyX6_countLeft ({ frames := 2, cells := 0, slots := 0, locals := 42 } : Room) [.ref (a 10)] (wSg a cI S sb q) (jCl S (S_n S)) := by
  refine Met.ofW (cc := cX6_countLeft) (maxL := 3) (ret := (some .int)) (by decide) rfl ?_
  intro p e s m args below meth c s₁ B hml hv
  obtain ⟨rfl, hK, hP⟩ := hv
  have hx := B.exec
  have hb := B.bytes
  have hr := B.returns
  have hts0 := atoms_spec (ws := wyX6_countLeft) B.pre
  have hts : ∀ w ∈ big, w.before _ s = true := fun w h => hts0 w (List.mem_cons_of_mem _ h)
  have hown : s.vm.findClass RX6 = some m.cls := findClass_of_methodNamed B.named
  have hlocks := B.notSynchronized
  have hl := lv_entry ([.ref (a 10)]) (n := 3) (Nat.le_of_ble_eq_true rfl)
  rw [lg_entry_eq]
  generalize (lg_sl ([.ref (a 10)]) ++ List.replicate (3 - (lg_sl ([.ref (a 10)])).length) Slot.unset).toArray = ls at hl ⊢
  have hl : lv_has ls 3 [(0, .ref (a 10))] := hl
  refine lv_iconst (v := 0) hx hb dX6_countLeft_0 (by decide) ?_
  refine lv_istore_n (lv' := [(1, .int 0), (0, .ref (a 10))]) hx hb dX6_countLeft_1 rfl hl (by decide) rfl (fun ls hl => ?_)
  refine lv_iconst (v := 0) hx hb dX6_countLeft_2 (by decide) ?_
  refine lv_istore_n (lv' := [(2, .int 0), (1, .int 0), (0, .ref (a 10))]) hx hb dX6_countLeft_3 rfl hl (by decide) rfl (fun ls hl => ?_)
  refine w_loop (α := Nat) (fun a9 => a9 ≤ S_n S) (fun a9 => S_n S - a9) (fun a9 => [(0, .ref (a 10)), (1, .int (jCl S a9)), (2, .int (nI a9))]) 4 3 ?_ 0 (Nat.zero_le _) (show lv_has ls 3 [(0, .ref (a 10)), (1, .int (jCl S 0)), (2, .int (nI 0))] from lv_sub hl [2, 1, 0] rfl)
  intro a9 ls hI hl ih_4
  obtain ⟨k, rfl⟩ : ∃ z, z = a9 := ⟨a9, rfl⟩
  have hI : k ≤ S_n S := hI
  have hl : lv_has ls 3 [(0, .ref (a 10)), (1, .int (jCl S k)), (2, .int (nI k))] := hl
  refine lv_iload_n hx hb dX6_countLeft_4 rfl (lv_at hl 2 rfl) ?_
  refine lv_aload_n hx hb dX6_countLeft_5 rfl (lv_at hl 0 rfl) ?_
  refine ro_V (As := []) (rest := [.int (nI k)]) ⟨hx, hb, hml, hown, hts⟩ (c_X6_signCount l D cI cZ a S sb q hS24) (cw_X6_56 hts rfl rfl ⟨Nat.le_of_ble_eq_true rfl, Nat.le_of_ble_eq_true rfl⟩) hK hP (ci := 6) rfl rfl rfl hl.1 rfl (Nat.le_of_ble_eq_true rfl) dX6_countLeft_6 ⟨Nat.zero_le _, Nat.zero_le _⟩ ?_
  refine lv_icmp_ge (tgt := 34) hx hb dX6_countLeft_9 (by decide) (fun c_1 => ?_) (fun c_1 => ?_)
  · skip
    have hge : S_n S ≤ k := zge (by have := hI; have := hS24; omega) (by have := hS24; omega) c_1
    refine lv_iload_n hx hb dX6_countLeft_34 rfl (lv_at hl 1 rfl) ?_
    exact ro_iret hx hb hr hlocks (by rw [show S_n S = k by omega]) dX6_countLeft_35
  · skip
    have hlt : k < S_n S := zlt (by have := hI; have := hS24; omega) (by have := hS24; omega) c_1
    refine lv_iload_n hx hb dX6_countLeft_12 rfl (lv_at hl 1 rfl) ?_
    refine lv_aload_n hx hb dX6_countLeft_13 rfl (lv_at hl 0 rfl) ?_
    refine lv_iload_n hx hb dX6_countLeft_14 rfl (lv_at hl 2 rfl) ?_
    refine ro_V (As := [.int (nI k)]) (rest := [.int (jCl S k)]) ⟨hx, hb, hml, hown, hts⟩ (c_X6_isGone l D cI cZ a S sb q hS24 (nI k)) (cw_X6_86 hts rfl rfl ⟨Nat.le_of_ble_eq_true rfl, Nat.le_of_ble_eq_true rfl⟩) hK hP (ci := 6) rfl rfl rfl hl.1 rfl (Nat.le_of_ble_eq_true rfl) dX6_countLeft_15 ⟨Nat.zero_le _, Nat.zero_le _⟩ ?_
    refine lv_if_eq (tgt := 25) hx hb dX6_countLeft_18 (by decide) (fun c_2 => ?_) (fun c_2 => ?_)
    · skip
      have c_2 := zb_eq0 c_2
      refine lv_iconst (v := 1) hx hb dX6_countLeft_25 (by decide) ?_
      refine lv_iadd hx hb dX6_countLeft_26 ?_
      refine lv_istore_n (lv' := [(1, .int ((jCl S k) + 1)), (0, .ref (a 10)), (2, .int (nI k))]) hx hb dX6_countLeft_27 rfl hl (by decide) rfl (fun ls hl => ?_)
      have hl : lv_has ls 3 [(1, .int (jCl S (k + 1))), (0, .ref (a 10)), (2, .int (nI k))] := by rw [show jCl S (k + 1) = ((jCl S k) + 1) from by rw [jCl]; simp [c_2]]; exact hl
      refine lv_iinc (v := (nI (k + 1))) (lv' := [(2, .int (nI (k + 1))), (1, .int (jCl S (k + 1))), (0, .ref (a 10))]) hx hb dX6_countLeft_28 hl (k := 2) rfl (nI_add k 1) (by decide) rfl (fun ls hl => ?_)
      refine lv_goto (tgt := 4) hx hb dX6_countLeft_31 (by decide) ?_
      exact ih_4 (k + 1) ls (show (k + 1) ≤ S_n S from hlt) (show S_n S - (k + 1) < S_n S - k from by omega) (show lv_has ls 3 [(0, .ref (a 10)), (1, .int (jCl S (k + 1))), (2, .int (nI (k + 1)))] from lv_sub hl [2, 1, 0] rfl)
    · skip
      have c_2 := zb_ne0 c_2
      refine lv_iconst (v := 0) hx hb dX6_countLeft_21 (by decide) ?_
      refine lv_goto (tgt := 26) hx hb dX6_countLeft_22 (by decide) ?_
      refine lv_iadd hx hb dX6_countLeft_26 ?_
      refine lv_istore_n (lv' := [(1, .int ((jCl S k) + 0)), (0, .ref (a 10)), (2, .int (nI k))]) hx hb dX6_countLeft_27 rfl hl (by decide) rfl (fun ls hl => ?_)
      have hl : lv_has ls 3 [(1, .int (jCl S (k + 1))), (0, .ref (a 10)), (2, .int (nI k))] := by rw [show jCl S (k + 1) = ((jCl S k) + 0) from by rw [jCl]; simp [c_2]]; exact hl
      refine lv_iinc (v := (nI (k + 1))) (lv' := [(2, .int (nI (k + 1))), (1, .int (jCl S (k + 1))), (0, .ref (a 10))]) hx hb dX6_countLeft_28 hl (k := 2) rfl (nI_add k 1) (by decide) rfl (fun ls hl => ?_)
      refine lv_goto (tgt := 4) hx hb dX6_countLeft_31 (by decide) ?_
      exact ih_4 (k + 1) ls (show (k + 1) ≤ S_n S from hlt) (show S_n S - (k + 1) < S_n S - k from by omega) (show lv_has ls 3 [(0, .ref (a 10)), (1, .int (jCl S (k + 1))), (2, .int (nI (k + 1)))] from lv_sub hl [2, 1, 0] rfl)

set_option maxHeartbeats 4000000 in
set_option maxRecDepth 100000 in
theorem c_X6_isSeen (l : Launch) (D : va_G) (cI cZ : ClassId) (a : Nat → Nat) (S : TS) (sb : Nat → Int32) (q : TQ) (hS24 : S_n S ≤ 24) (N : TN) (pb : Nat → Int32) (hN16 : N_n N ≤ 16) (i x k : Int32) : RO l D cI cZ yX6_isSeen wyX6_isSeen ({ frames := 2, cells := 0, slots := 0, locals := 42 } : Room) [.ref (a 10), .int i, .int x, .int k] (wSg a cI S sb q ++ wNet a cI N pb) (zb (jSn S sb q N i x k = true)) := by
  refine Met.ofW (cc := cX6_isSeen) (maxL := 5) (ret := (some .boolean)) (by decide) rfl ?_
  intro p e s m args below meth c s₁ B hml hv
  obtain ⟨rfl, hK, hP⟩ := hv
  have hx := B.exec
  have hb := B.bytes
  have hr := B.returns
  have hts0 := atoms_spec (ws := wyX6_isSeen) B.pre
  have hts : ∀ w ∈ big, w.before _ s = true := fun w h => hts0 w (List.mem_cons_of_mem _ h)
  have hown : s.vm.findClass RX6 = some m.cls := findClass_of_methodNamed B.named
  have hlocks := B.notSynchronized
  have hl := lv_entry ([.ref (a 10), .int i, .int x, .int k]) (n := 5) (Nat.le_of_ble_eq_true rfl)
  rw [lg_entry_eq]
  generalize (lg_sl ([.ref (a 10), .int i, .int x, .int k]) ++ List.replicate (5 - (lg_sl ([.ref (a 10), .int i, .int x, .int k])).length) Slot.unset).toArray = ls at hl ⊢
  have hl : lv_has ls 5 [(0, .ref (a 10)), (1, .int i), (2, .int x), (3, .int k)] := hl
  refine lv_aload_n hx hb dX6_isSeen_0 rfl (lv_at hl 0 rfl) ?_
  refine lv_iload_n hx hb dX6_isSeen_1 rfl (lv_at hl 1 rfl) ?_
  refine ro_V (As := [.int i]) (rest := []) ⟨hx, hb, hml, hown, hts⟩ (c_X6_placeOf l D cI cZ a S sb q hS24 i) (cw_X6_83 hts rfl rfl ⟨Nat.le_of_ble_eq_true rfl, Nat.le_of_ble_eq_true rfl⟩) hK (hP.sub [0, 1, 2, 3, 4, 5, 6, 7, 8, 9, 10, 11, 12, 13, 14] rfl) (ci := 6) rfl rfl rfl hl.1 rfl (Nat.le_of_ble_eq_true rfl) dX6_isSeen_2 ⟨Nat.zero_le _, Nat.zero_le _⟩ ?_
  refine lv_iload_n hx hb dX6_isSeen_5 rfl (lv_at hl 2 rfl) ?_
  refine lv_icmp_ne (tgt := 17) hx hb dX6_isSeen_6 (by decide) (fun c_1 => ?_) (fun c_1 => ?_)
  · skip
    refine lv_iconst (v := 0) hx hb dX6_isSeen_17 (by decide) ?_
    exact ro_zret hx hb hr hlocks (nar_zb _) (by unfold jSn; simp only [zb, decide_eq_true_eq]; simp [c_1, Int32.not_le, Int32.not_lt]) dX6_isSeen_18
  · skip
    refine lv_aload_n hx hb dX6_isSeen_9 rfl (lv_at hl 0 rfl) ?_
    refine lv_iload_n hx hb dX6_isSeen_10 rfl (lv_at hl 1 rfl) ?_
    refine ro_V (As := [.int i]) (rest := []) ⟨hx, hb, hml, hown, hts⟩ (c_X6_isGone l D cI cZ a S sb q hS24 i) (cw_X6_86 hts rfl rfl ⟨Nat.le_of_ble_eq_true rfl, Nat.le_of_ble_eq_true rfl⟩) hK (hP.sub [0, 1, 2, 3, 4, 5, 6, 7, 8, 9, 10, 11, 12, 13, 14] rfl) (ci := 6) rfl rfl rfl hl.1 rfl (Nat.le_of_ble_eq_true rfl) dX6_isSeen_11 ⟨Nat.zero_le _, Nat.zero_le _⟩ ?_
    refine lv_if_eq (tgt := 19) hx hb dX6_isSeen_14 (by decide) (fun c_2 => ?_) (fun c_2 => ?_)
    · skip
      have c_2 := zb_eq0 c_2
      refine w_join (α := Int32) (fun a9 => a9 = (if k = -1 then 65536 else zbt k)) (fun a9 => [(0, .ref (a 10)), (1, .int i), (2, .int x), (3, .int k), (4, .int a9)]) (fun a9 => []) 35 5 (fun hJ_35 => ?_) ?_
      · skip
        refine lv_iload_n hx hb dX6_isSeen_19 rfl (lv_at hl 3 rfl) ?_
        refine lv_iconst (v := (-1)) hx hb dX6_isSeen_20 (by decide) ?_
        refine lv_icmp_ne (tgt := 29) hx hb dX6_isSeen_21 (by decide) (fun c_3 => ?_) (fun c_3 => ?_)
        · skip
          refine lv_iload_n hx hb dX6_isSeen_29 rfl (lv_at hl 3 rfl) ?_
          refine ro_SN (As := [.int k]) (rest := []) ⟨hx, hb, hml, hown, hts⟩ (c_X9_bitOf l D cI cZ  k) (cw_X6_90 hts rfl rfl hK ⟨Nat.le_of_ble_eq_true rfl, Nat.le_of_ble_eq_true rfl⟩) hK P_nil rfl hl.1 rfl (Nat.le_of_ble_eq_true rfl) dX6_isSeen_30 ⟨Nat.zero_le _, Nat.zero_le _⟩ ?_
          refine lv_istore (lv' := [(4, .int (zbt k)), (0, .ref (a 10)), (1, .int i), (2, .int x), (3, .int k)]) hx hb dX6_isSeen_33 hl (by decide) rfl (fun ls hl => ?_)
          exact hJ_35 (zbt k) ls (show (zbt k) = (if k = -1 then 65536 else zbt k) from by simp [c_3]) (show lv_has ls 5 [(0, .ref (a 10)), (1, .int i), (2, .int x), (3, .int k), (4, .int (zbt k))] from lv_sub hl [1, 2, 3, 4, 0] rfl)
        · skip
          refine lv_ldc (v := 65536) hx hb hown (hts _ kc_X6_79) dX6_isSeen_24 ?_
          refine lv_goto (tgt := 33) hx hb dX6_isSeen_26 (by decide) ?_
          refine lv_istore (lv' := [(4, .int 65536), (0, .ref (a 10)), (1, .int i), (2, .int x), (3, .int k)]) hx hb dX6_isSeen_33 hl (by decide) rfl (fun ls hl => ?_)
          exact hJ_35 65536 ls (show 65536 = (if k = -1 then 65536 else zbt k) from by simp [c_3]) (show lv_has ls 5 [(0, .ref (a 10)), (1, .int i), (2, .int x), (3, .int k), (4, .int 65536)] from lv_sub hl [1, 2, 3, 4, 0] rfl)
      · skip
        intro a9 ls hI hl
        obtain ⟨y, rfl⟩ : ∃ z, z = a9 := ⟨a9, rfl⟩
        have hI : y = (if k = -1 then 65536 else zbt k) := hI
        have hl : lv_has ls 5 [(0, .ref (a 10)), (1, .int i), (2, .int x), (3, .int k), (4, .int y)] := hl
        refine lv_aload_n hx hb dX6_isSeen_35 rfl (lv_at hl 0 rfl) ?_
        refine va_get (D := D) (ci := 6) (v := .ref (a 23)) (C := RX6) (T := TX6) (N := 11) hx hb hts hin6 hown hK.1 hP 0 rfl rfl 7 (by decide) (hts _ fl_X6_35) (fun _ h9 => h9) rfl dX6_isSeen_36 ?_
        refine lv_iload_n hx hb dX6_isSeen_39 rfl (lv_at hl 1 rfl) ?_
        refine ro_V (As := [.int i]) (rest := []) ⟨hx, hb, hml, hown, hts⟩ (c_X5_get l D cI cZ (a 23) (a 24) 24 (S_n S) sb hS24 (by decide) i) (cw_X6_63 hts rfl rfl ⟨Nat.le_of_ble_eq_true rfl, Nat.le_of_ble_eq_true rfl⟩) hK (hP.sub [13, 14] rfl) (ci := 5) rfl rfl rfl hl.1 rfl (Nat.le_of_ble_eq_true rfl) dX6_isSeen_40 ⟨Nat.zero_le _, Nat.zero_le _⟩ ?_
        refine lv_iload hx hb dX6_isSeen_43 (lv_at hl 4 rfl) ?_
        refine lv_iand hx hb dX6_isSeen_45 ?_
        refine lv_if_ne (tgt := 51) hx hb dX6_isSeen_46 (by decide) (fun c_4 => ?_) (fun c_4 => ?_)
        · skip
          refine lv_iload_n hx hb dX6_isSeen_51 rfl (lv_at hl 3 rfl) ?_
          refine lv_iconst (v := (-1)) hx hb dX6_isSeen_52 (by decide) ?_
          refine lv_icmp_eq (tgt := 82) hx hb dX6_isSeen_53 (by decide) (fun c_5 => ?_) (fun c_5 => ?_)
          · skip
            refine lv_iconst (v := 1) hx hb dX6_isSeen_82 (by decide) ?_
            refine lv_goto (tgt := 87) hx hb dX6_isSeen_83 (by decide) ?_
            exact ro_zret hx hb hr hlocks (nar_zb _) (by unfold jSn; simp only [zb, decide_eq_true_eq]; rw [← hI]; simp [c_1, c_2, c_4, c_5, Int32.not_le, Int32.not_lt]) dX6_isSeen_87
          · skip
            refine lv_aload_n hx hb dX6_isSeen_56 rfl (lv_at hl 0 rfl) ?_
            refine lv_iload_n hx hb dX6_isSeen_57 rfl (lv_at hl 1 rfl) ?_
            refine ro_V (As := [.int i]) (rest := []) ⟨hx, hb, hml, hown, hts⟩ (c_X6_kindOf l D cI cZ a S sb q hS24 i) (cw_X6_59 hts rfl rfl ⟨Nat.le_of_ble_eq_true rfl, Nat.le_of_ble_eq_true rfl⟩) hK (hP.sub [0, 1, 2, 3, 4, 5, 6, 7, 8, 9, 10, 11, 12, 13, 14] rfl) (ci := 6) rfl rfl rfl hl.1 rfl (Nat.le_of_ble_eq_true rfl) dX6_isSeen_58 ⟨Nat.zero_le _, Nat.zero_le _⟩ ?_
            refine ro_SN (As := [.int (rg (S_n S) (S_k S) i)]) (rest := []) ⟨hx, hb, hml, hown, hts⟩ (c_X9_isOfPath l D cI cZ  (rg (S_n S) (S_k S) i)) (cw_X6_93 hts rfl rfl hK ⟨Nat.le_of_ble_eq_true rfl, Nat.le_of_ble_eq_true rfl⟩) hK P_nil rfl hl.1 rfl (Nat.le_of_ble_eq_true rfl) dX6_isSeen_61 ⟨Nat.zero_le _, Nat.zero_le _⟩ ?_
            refine lv_if_eq (tgt := 82) hx hb dX6_isSeen_64 (by decide) (fun c_6 => ?_) (fun c_6 => ?_)
            · skip
              have c_6 := zb_eq0 c_6
              refine lv_iconst (v := 1) hx hb dX6_isSeen_82 (by decide) ?_
              refine lv_goto (tgt := 87) hx hb dX6_isSeen_83 (by decide) ?_
              exact ro_zret hx hb hr hlocks (nar_zb _) (by unfold jSn; simp only [zb, decide_eq_true_eq]; rw [← hI]; simp [c_1, c_2, c_4, c_5, c_6, Int32.not_le, Int32.not_lt]) dX6_isSeen_87
            · skip
              have c_6 := zb_ne0 c_6
              refine lv_aload_n hx hb dX6_isSeen_67 rfl (lv_at hl 0 rfl) ?_
              refine va_get (D := D) (ci := 6) (v := .ref (a 1)) (C := RX6) (T := TX6) (N := 11) hx hb hts hin6 hown hK.1 hP 0 rfl rfl 0 (by decide) (hts _ fl_X6_48) (fun _ h9 => h9) rfl dX6_isSeen_68 ?_
              refine lv_iload_n hx hb dX6_isSeen_71 rfl (lv_at hl 3 rfl) ?_
              refine ro_V (As := [.int k]) (rest := []) ⟨hx, hb, hml, hown, hts⟩ (c_X2_lengthOf l D cI cZ a N pb hN16 k) (cw_X6_96 hts rfl rfl ⟨Nat.le_of_ble_eq_true rfl, Nat.le_of_ble_eq_true rfl⟩) hK (hP.sub [15, 16, 17, 18, 19, 20, 21, 22, 23] rfl) (ci := 2) rfl rfl rfl hl.1 rfl (Nat.le_of_ble_eq_true rfl) dX6_isSeen_72 ⟨Nat.zero_le _, Nat.zero_le _⟩ ?_
              refine lv_aload_n hx hb dX6_isSeen_75 rfl (lv_at hl 0 rfl) ?_
              refine va_get (D := D) (ci := 6) (v := .int q.2.2) (C := RX6) (T := TX6) (N := 11) hx hb hts hin6 hown hK.1 hP 0 rfl rfl 10 (by decide) (hts _ fl_X6_45) (fun _ h9 => h9) rfl dX6_isSeen_76 ?_
              refine lv_icmp_lt (tgt := 86) hx hb dX6_isSeen_79 (by decide) (fun c_7 => ?_) (fun c_7 => ?_)
              · skip
                refine lv_iconst (v := 0) hx hb dX6_isSeen_86 (by decide) ?_
                exact ro_zret hx hb hr hlocks (nar_zb _) (by unfold jSn; simp only [zb, decide_eq_true_eq]; rw [← hI]; simp [c_1, c_2, c_4, c_5, c_6, c_7, Int32.not_le, Int32.not_lt]) dX6_isSeen_87
              · skip
                refine lv_iconst (v := 1) hx hb dX6_isSeen_82 (by decide) ?_
                refine lv_goto (tgt := 87) hx hb dX6_isSeen_83 (by decide) ?_
                exact ro_zret hx hb hr hlocks (nar_zb _) (by unfold jSn; simp only [zb, decide_eq_true_eq]; rw [← hI]; simp [c_1, c_2, c_4, c_5, c_6, c_7, Int32.not_le, Int32.not_lt]) dX6_isSeen_87
        · skip
          refine lv_iconst (v := 0) hx hb dX6_isSeen_49 (by decide) ?_
          exact ro_zret hx hb hr hlocks (nar_zb _) (by unfold jSn; simp only [zb, decide_eq_true_eq]; rw [← hI]; simp [c_1, c_2, c_4, Int32.not_le, Int32.not_lt]) dX6_isSeen_50
    · skip
      have c_2 := zb_ne0 c_2
      refine lv_iconst (v := 0) hx hb dX6_isSeen_17 (by decide) ?_
      exact ro_zret hx hb hr hlocks (nar_zb _) (by unfold jSn; simp only [zb, decide_eq_true_eq]; simp [c_1, c_2, Int32.not_le, Int32.not_lt]) dX6_isSeen_18

set_option maxHeartbeats 4000000 in
set_option maxRecDepth 100000 in
theorem c_X6_allSeen (l : Launch) (D : va_G) (cI cZ : ClassId) (a : Nat → Nat) (S : TS) (sb : Nat → Int32) (q : TQ) (hS24 : S_n S ≤ 24) (N : TN) (pb : Nat → Int32) (hN16 : N_n N ≤ 16) (x y : Int32) : RO l D cI cZ yX6_allSeen wyX6_allSeen ({ frames := 3, cells := 0, slots := 0, locals := 66 } : Room) [.ref (a 10), .int x, .int y] (wSg a cI S sb q ++ wNet a cI N pb) (jAll S sb q N x y (S_n S)) := by
  refine Met.ofW (cc := cX6_allSeen) (maxL := 5) (ret := (some .int)) (by decide) rfl ?_
  intro p e s m args below meth c s₁ B hml hv
  obtain ⟨rfl, hK, hP⟩ := hv
  have hx := B.exec
  have hb := B.bytes
  have hr := B.returns
  have hts0 := atoms_spec (ws := wyX6_allSeen) B.pre
  have hts : ∀ w ∈ big, w.before _ s = true := fun w h => hts0 w (List.mem_cons_of_mem _ h)
  have hown : s.vm.findClass RX6 = some m.cls := findClass_of_methodNamed B.named
  have hlocks := B.notSynchronized
  have hl := lv_entry ([.ref (a 10), .int x, .int y]) (n := 5) (Nat.le_of_ble_eq_true rfl)
  rw [lg_entry_eq]
  generalize (lg_sl ([.ref (a 10), .int x, .int y]) ++ List.replicate (5 - (lg_sl ([.ref (a 10), .int x, .int y])).length) Slot.unset).toArray = ls at hl ⊢
  have hl : lv_has ls 5 [(0, .ref (a 10)), (1, .int x), (2, .int y)] := hl
  refine lv_iconst (v := 0) hx hb dX6_allSeen_0 (by decide) ?_
  refine lv_istore_n (lv' := [(3, .int 0), (0, .ref (a 10)), (1, .int x), (2, .int y)]) hx hb dX6_allSeen_1 rfl hl (by decide) rfl (fun ls hl => ?_)
  refine lv_iconst (v := 0) hx hb dX6_allSeen_2 (by decide) ?_
  refine lv_istore (lv' := [(4, .int 0), (3, .int 0), (0, .ref (a 10)), (1, .int x), (2, .int y)]) hx hb dX6_allSeen_3 hl (by decide) rfl (fun ls hl => ?_)
  refine w_loop (α := Nat) (fun a9 => a9 ≤ S_n S) (fun a9 => S_n S - a9) (fun a9 => [(0, .ref (a 10)), (1, .int x), (2, .int y), (3, .int (jAll S sb q N x y a9)), (4, .int (nI a9))]) 5 5 ?_ 0 (Nat.zero_le _) (show lv_has ls 5 [(0, .ref (a 10)), (1, .int x), (2, .int y), (3, .int (jAll S sb q N x y 0)), (4, .int (nI 0))] from lv_sub hl [2, 3, 4, 1, 0] rfl)
  intro a9 ls hI hl ih_5
  obtain ⟨k, rfl⟩ : ∃ z, z = a9 := ⟨a9, rfl⟩
  have hI : k ≤ S_n S := hI
  have hl : lv_has ls 5 [(0, .ref (a 10)), (1, .int x), (2, .int y), (3, .int (jAll S sb q N x y k)), (4, .int (nI k))] := hl
  refine lv_iload hx hb dX6_allSeen_5 (lv_at hl 4 rfl) ?_
  refine lv_aload_n hx hb dX6_allSeen_7 rfl (lv_at hl 0 rfl) ?_
  refine ro_V (As := []) (rest := [.int (nI k)]) ⟨hx, hb, hml, hown, hts⟩ (c_X6_signCount l D cI cZ a S sb q hS24) (cw_X6_56 hts rfl rfl ⟨Nat.le_of_ble_eq_true rfl, Nat.le_of_ble_eq_true rfl⟩) hK (hP.sub [0, 1, 2, 3, 4, 5, 6, 7, 8, 9, 10, 11, 12, 13, 14] rfl) (ci := 6) rfl rfl rfl hl.1 rfl (Nat.le_of_ble_eq_true rfl) dX6_allSeen_8 ⟨Nat.zero_le _, Nat.zero_le _⟩ ?_
  refine lv_icmp_ge (tgt := 42) hx hb dX6_allSeen_11 (by decide) (fun c_1 => ?_) (fun c_1 => ?_)
  · skip
    have hge : S_n S ≤ k := zge (by have := hI; have := hS24; omega) (by have := hS24; omega) c_1
    refine lv_iload_n hx hb dX6_allSeen_42 rfl (lv_at hl 3 rfl) ?_
    exact ro_iret hx hb hr hlocks (by rw [show S_n S = k by omega]) dX6_allSeen_43
  · skip
    have hlt : k < S_n S := zlt (by have := hI; have := hS24; omega) (by have := hS24; omega) c_1
    refine lv_iload_n hx hb dX6_allSeen_14 rfl (lv_at hl 3 rfl) ?_
    refine lv_aload_n hx hb dX6_allSeen_15 rfl (lv_at hl 0 rfl) ?_
    refine lv_iload hx hb dX6_allSeen_16 (lv_at hl 4 rfl) ?_
    refine lv_iload_n hx hb dX6_allSeen_18 rfl (lv_at hl 1 rfl) ?_
    refine lv_iload_n hx hb dX6_allSeen_19 rfl (lv_at hl 2 rfl) ?_
    refine ro_V (As := [.int (nI k), .int x, .int y]) (rest := [.int (jAll S sb q N x y k)]) ⟨hx, hb, hml, hown, hts⟩ (c_X6_isSeen l D cI cZ a S sb q hS24 N pb hN16 (nI k) x y) (cw_X6_101 hts rfl rfl ⟨Nat.le_of_ble_eq_true rfl, Nat.le_of_ble_eq_true rfl⟩) hK hP (ci := 6) rfl rfl rfl hl.1 rfl (Nat.le_of_ble_eq_true rfl) dX6_allSeen_20 ⟨Nat.zero_le _, Nat.zero_le _⟩ ?_
    refine lv_if_eq (tgt := 33) hx hb dX6_allSeen_23 (by decide) (fun c_2 => ?_) (fun c_2 => ?_)
    · skip
      have c_2 := zb_eq0 c_2
      refine lv_iconst (v := 0) hx hb dX6_allSeen_33 (by decide) ?_
      refine lv_ior hx hb dX6_allSeen_34 ?_
      refine lv_istore_n (lv' := [(3, .int ((jAll S sb q N x y k) ||| 0)), (0, .ref (a 10)), (1, .int x), (2, .int y), (4, .int (nI k))]) hx hb dX6_allSeen_35 rfl hl (by decide) rfl (fun ls hl => ?_)
      have hl : lv_has ls 5 [(3, .int (jAll S sb q N x y (k + 1))), (0, .ref (a 10)), (1, .int x), (2, .int y), (4, .int (nI k))] := by rw [show jAll S sb q N x y (k + 1) = ((jAll S sb q N x y k) ||| 0) from by rw [jAll]; simp [c_2]]; exact hl
      refine lv_iinc (v := (nI (k + 1))) (lv' := [(4, .int (nI (k + 1))), (3, .int (jAll S sb q N x y (k + 1))), (0, .ref (a 10)), (1, .int x), (2, .int y)]) hx hb dX6_allSeen_36 hl (k := 4) rfl (nI_add k 1) (by decide) rfl (fun ls hl => ?_)
      refine lv_goto (tgt := 5) hx hb dX6_allSeen_39 (by decide) ?_
      exact ih_5 (k + 1) ls (show (k + 1) ≤ S_n S from hlt) (show S_n S - (k + 1) < S_n S - k from by omega) (show lv_has ls 5 [(0, .ref (a 10)), (1, .int x), (2, .int y), (3, .int (jAll S sb q N x y (k + 1))), (4, .int (nI (k + 1)))] from lv_sub hl [2, 3, 4, 1, 0] rfl)
    · skip
      have c_2 := zb_ne0 c_2
      refine lv_iconst (v := 1) hx hb dX6_allSeen_26 (by decide) ?_
      refine lv_iload hx hb dX6_allSeen_27 (lv_at hl 4 rfl) ?_
      refine lv_ishl hx hb dX6_allSeen_29 ?_
      refine lv_goto (tgt := 34) hx hb dX6_allSeen_30 (by decide) ?_
      refine lv_ior hx hb dX6_allSeen_34 ?_
      refine lv_istore_n (lv' := [(3, .int ((jAll S sb q N x y k) ||| (1 <<< ((nI k) &&& 31)))), (0, .ref (a 10)), (1, .int x), (2, .int y), (4, .int (nI k))]) hx hb dX6_allSeen_35 rfl hl (by decide) rfl (fun ls hl => ?_)
      have hl : lv_has ls 5 [(3, .int (jAll S sb q N x y (k + 1))), (0, .ref (a 10)), (1, .int x), (2, .int y), (4, .int (nI k))] := by rw [show jAll S sb q N x y (k + 1) = ((jAll S sb q N x y k) ||| (1 <<< ((nI k) &&& 31))) from by rw [jAll]; simp [c_2]]; exact hl
      refine lv_iinc (v := (nI (k + 1))) (lv' := [(4, .int (nI (k + 1))), (3, .int (jAll S sb q N x y (k + 1))), (0, .ref (a 10)), (1, .int x), (2, .int y)]) hx hb dX6_allSeen_36 hl (k := 4) rfl (nI_add k 1) (by decide) rfl (fun ls hl => ?_)
      refine lv_goto (tgt := 5) hx hb dX6_allSeen_39 (by decide) ?_
      exact ih_5 (k + 1) ls (show (k + 1) ≤ S_n S from hlt) (show S_n S - (k + 1) < S_n S - k from by omega) (show lv_has ls 5 [(0, .ref (a 10)), (1, .int x), (2, .int y), (3, .int (jAll S sb q N x y (k + 1))), (4, .int (nI (k + 1)))] from lv_sub hl [2, 3, 4, 1, 0] rfl)

set_option maxHeartbeats 4000000 in
set_option maxRecDepth 100000 in
theorem c_X6_kindsSeen (l : Launch) (D : va_G) (cI cZ : ClassId) (a : Nat → Nat) (S : TS) (sb : Nat → Int32) (q : TQ) (hS24 : S_n S ≤ 24) (N : TN) (pb : Nat → Int32) (hN16 : N_n N ≤ 16) (x y : Int32) : RO l D cI cZ yX6_kindsSeen wyX6_kindsSeen ({ frames := 3, cells := 0, slots := 0, locals := 66 } : Room) [.ref (a 10), .int x, .int y] (wSg a cI S sb q ++ wNet a cI N pb) (jKs S sb q N x y (S_n S)) := by
  refine Met.ofW (cc := cX6_kindsSeen) (maxL := 5) (ret := (some .int)) (by decide) rfl ?_
  intro p e s m args below meth c s₁ B hml hv
  obtain ⟨rfl, hK, hP⟩ := hv
  have hx := B.exec
  have hb := B.bytes
  have hr := B.returns
  have hts0 := atoms_spec (ws := wyX6_kindsSeen) B.pre
  have hts : ∀ w ∈ big, w.before _ s = true := fun w h => hts0 w (List.mem_cons_of_mem _ h)
  have hown : s.vm.findClass RX6 = some m.cls := findClass_of_methodNamed B.named
  have hlocks := B.notSynchronized
  have hl := lv_entry ([.ref (a 10), .int x, .int y]) (n := 5) (Nat.le_of_ble_eq_true rfl)
  rw [lg_entry_eq]
  generalize (lg_sl ([.ref (a 10), .int x, .int y]) ++ List.replicate (5 - (lg_sl ([.ref (a 10), .int x, .int y])).length) Slot.unset).toArray = ls at hl ⊢
  have hl : lv_has ls 5 [(0, .ref (a 10)), (1, .int x), (2, .int y)] := hl
  refine lv_iconst (v := 0) hx hb dX6_kindsSeen_0 (by decide) ?_
  refine lv_istore_n (lv' := [(3, .int 0), (0, .ref (a 10)), (1, .int x), (2, .int y)]) hx hb dX6_kindsSeen_1 rfl hl (by decide) rfl (fun ls hl => ?_)
  refine lv_iconst (v := 0) hx hb dX6_kindsSeen_2 (by decide) ?_
  refine lv_istore (lv' := [(4, .int 0), (3, .int 0), (0, .ref (a 10)), (1, .int x), (2, .int y)]) hx hb dX6_kindsSeen_3 hl (by decide) rfl (fun ls hl => ?_)
  refine w_loop (α := Nat) (fun a9 => a9 ≤ S_n S) (fun a9 => S_n S - a9) (fun a9 => [(0, .ref (a 10)), (1, .int x), (2, .int y), (3, .int (jKs S sb q N x y a9)), (4, .int (nI a9))]) 5 5 ?_ 0 (Nat.zero_le _) (show lv_has ls 5 [(0, .ref (a 10)), (1, .int x), (2, .int y), (3, .int (jKs S sb q N x y 0)), (4, .int (nI 0))] from lv_sub hl [2, 3, 4, 1, 0] rfl)
  intro a9 ls hI hl ih_5
  obtain ⟨k, rfl⟩ : ∃ z, z = a9 := ⟨a9, rfl⟩
  have hI : k ≤ S_n S := hI
  have hl : lv_has ls 5 [(0, .ref (a 10)), (1, .int x), (2, .int y), (3, .int (jKs S sb q N x y k)), (4, .int (nI k))] := hl
  refine lv_iload hx hb dX6_kindsSeen_5 (lv_at hl 4 rfl) ?_
  refine lv_aload_n hx hb dX6_kindsSeen_7 rfl (lv_at hl 0 rfl) ?_
  refine ro_V (As := []) (rest := [.int (nI k)]) ⟨hx, hb, hml, hown, hts⟩ (c_X6_signCount l D cI cZ a S sb q hS24) (cw_X6_56 hts rfl rfl ⟨Nat.le_of_ble_eq_true rfl, Nat.le_of_ble_eq_true rfl⟩) hK (hP.sub [0, 1, 2, 3, 4, 5, 6, 7, 8, 9, 10, 11, 12, 13, 14] rfl) (ci := 6) rfl rfl rfl hl.1 rfl (Nat.le_of_ble_eq_true rfl) dX6_kindsSeen_8 ⟨Nat.zero_le _, Nat.zero_le _⟩ ?_
  refine lv_icmp_ge (tgt := 46) hx hb dX6_kindsSeen_11 (by decide) (fun c_1 => ?_) (fun c_1 => ?_)
  · skip
    have hge : S_n S ≤ k := zge (by have := hI; have := hS24; omega) (by have := hS24; omega) c_1
    refine lv_iload_n hx hb dX6_kindsSeen_46 rfl (lv_at hl 3 rfl) ?_
    exact ro_iret hx hb hr hlocks (by rw [show S_n S = k by omega]) dX6_kindsSeen_47
  · skip
    have hlt : k < S_n S := zlt (by have := hI; have := hS24; omega) (by have := hS24; omega) c_1
    refine lv_iload_n hx hb dX6_kindsSeen_14 rfl (lv_at hl 3 rfl) ?_
    refine lv_aload_n hx hb dX6_kindsSeen_15 rfl (lv_at hl 0 rfl) ?_
    refine lv_iload hx hb dX6_kindsSeen_16 (lv_at hl 4 rfl) ?_
    refine lv_iload_n hx hb dX6_kindsSeen_18 rfl (lv_at hl 1 rfl) ?_
    refine lv_iload_n hx hb dX6_kindsSeen_19 rfl (lv_at hl 2 rfl) ?_
    refine ro_V (As := [.int (nI k), .int x, .int y]) (rest := [.int (jKs S sb q N x y k)]) ⟨hx, hb, hml, hown, hts⟩ (c_X6_isSeen l D cI cZ a S sb q hS24 N pb hN16 (nI k) x y) (cw_X6_101 hts rfl rfl ⟨Nat.le_of_ble_eq_true rfl, Nat.le_of_ble_eq_true rfl⟩) hK hP (ci := 6) rfl rfl rfl hl.1 rfl (Nat.le_of_ble_eq_true rfl) dX6_kindsSeen_20 ⟨Nat.zero_le _, Nat.zero_le _⟩ ?_
    refine lv_if_eq (tgt := 37) hx hb dX6_kindsSeen_23 (by decide) (fun c_2 => ?_) (fun c_2 => ?_)
    · skip
      have c_2 := zb_eq0 c_2
      refine lv_iconst (v := 0) hx hb dX6_kindsSeen_37 (by decide) ?_
      refine lv_ior hx hb dX6_kindsSeen_38 ?_
      refine lv_istore_n (lv' := [(3, .int ((jKs S sb q N x y k) ||| 0)), (0, .ref (a 10)), (1, .int x), (2, .int y), (4, .int (nI k))]) hx hb dX6_kindsSeen_39 rfl hl (by decide) rfl (fun ls hl => ?_)
      have hl : lv_has ls 5 [(3, .int (jKs S sb q N x y (k + 1))), (0, .ref (a 10)), (1, .int x), (2, .int y), (4, .int (nI k))] := by rw [show jKs S sb q N x y (k + 1) = ((jKs S sb q N x y k) ||| 0) from by rw [jKs]; simp [c_2]]; exact hl
      refine lv_iinc (v := (nI (k + 1))) (lv' := [(4, .int (nI (k + 1))), (3, .int (jKs S sb q N x y (k + 1))), (0, .ref (a 10)), (1, .int x), (2, .int y)]) hx hb dX6_kindsSeen_40 hl (k := 4) rfl (nI_add k 1) (by decide) rfl (fun ls hl => ?_)
      refine lv_goto (tgt := 5) hx hb dX6_kindsSeen_43 (by decide) ?_
      exact ih_5 (k + 1) ls (show (k + 1) ≤ S_n S from hlt) (show S_n S - (k + 1) < S_n S - k from by omega) (show lv_has ls 5 [(0, .ref (a 10)), (1, .int x), (2, .int y), (3, .int (jKs S sb q N x y (k + 1))), (4, .int (nI (k + 1)))] from lv_sub hl [2, 3, 4, 1, 0] rfl)
    · skip
      have c_2 := zb_ne0 c_2
      refine lv_iconst (v := 1) hx hb dX6_kindsSeen_26 (by decide) ?_
      refine lv_aload_n hx hb dX6_kindsSeen_27 rfl (lv_at hl 0 rfl) ?_
      refine lv_iload hx hb dX6_kindsSeen_28 (lv_at hl 4 rfl) ?_
      refine ro_V (As := [.int (nI k)]) (rest := [.int 1, .int (jKs S sb q N x y k)]) ⟨hx, hb, hml, hown, hts⟩ (c_X6_kindOf l D cI cZ a S sb q hS24 (nI k)) (cw_X6_59 hts rfl rfl ⟨Nat.le_of_ble_eq_true rfl, Nat.le_of_ble_eq_true rfl⟩) hK (hP.sub [0, 1, 2, 3, 4, 5, 6, 7, 8, 9, 10, 11, 12, 13, 14] rfl) (ci := 6) rfl rfl rfl hl.1 rfl (Nat.le_of_ble_eq_true rfl) dX6_kindsSeen_30 ⟨Nat.zero_le _, Nat.zero_le _⟩ ?_
      rw [rg_in hlt (show S_n S < 2 ^ 31 by have := hS24; omega)]
      refine lv_ishl hx hb dX6_kindsSeen_33 ?_
      refine lv_goto (tgt := 38) hx hb dX6_kindsSeen_34 (by decide) ?_
      refine lv_ior hx hb dX6_kindsSeen_38 ?_
      refine lv_istore_n (lv' := [(3, .int ((jKs S sb q N x y k) ||| (1 <<< ((S_k S k) &&& 31)))), (0, .ref (a 10)), (1, .int x), (2, .int y), (4, .int (nI k))]) hx hb dX6_kindsSeen_39 rfl hl (by decide) rfl (fun ls hl => ?_)
      have hl : lv_has ls 5 [(3, .int (jKs S sb q N x y (k + 1))), (0, .ref (a 10)), (1, .int x), (2, .int y), (4, .int (nI k))] := by rw [show jKs S sb q N x y (k + 1) = ((jKs S sb q N x y k) ||| (1 <<< ((S_k S k) &&& 31))) from by rw [jKs]; simp [c_2]]; exact hl
      refine lv_iinc (v := (nI (k + 1))) (lv' := [(4, .int (nI (k + 1))), (3, .int (jKs S sb q N x y (k + 1))), (0, .ref (a 10)), (1, .int x), (2, .int y)]) hx hb dX6_kindsSeen_40 hl (k := 4) rfl (nI_add k 1) (by decide) rfl (fun ls hl => ?_)
      refine lv_goto (tgt := 5) hx hb dX6_kindsSeen_43 (by decide) ?_
      exact ih_5 (k + 1) ls (show (k + 1) ≤ S_n S from hlt) (show S_n S - (k + 1) < S_n S - k from by omega) (show lv_has ls 5 [(0, .ref (a 10)), (1, .int x), (2, .int y), (3, .int (jKs S sb q N x y (k + 1))), (4, .int (nI (k + 1)))] from lv_sub hl [2, 3, 4, 1, 0] rfl)
