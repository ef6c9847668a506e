set_option maxHeartbeats 4000000 in
set_option maxRecDepth 100000 in
theorem c_X2_pathCount (l : Launch) (D : va_G) (cI cZ : ClassId) (a : Nat → Nat) (N : TN) (pb : Nat → Int32) (hN16 : N_n N ≤ 16) : RO l D cI cZ yX2_pathCount wyX2_pathCount ({ frames := 1, cells := 0, slots := 0, locals := 20 } : Room) [.ref (a 1)] (wNet a cI N pb) (nI (N_n N)) := by
  refine Met.ofW (cc := cX2_pathCount) (maxL := 1) (ret := (some .int)) (by decide) rfl ?_
  intro p e s m args below meth c s₁ B hml hv
  obtain ⟨rfl, hK, hP⟩ := hv
  have hx := B.exec
  have hb := B.bytes
  have hr := B.returns
  have hts0 := atoms_spec (ws := wyX2_pathCount) B.pre
  have hts : ∀ w ∈ big, w.before _ s = true := fun w h => hts0 w (List.mem_cons_of_mem _ h)
  have hown : s.vm.findClass RX2 = some m.cls := findClass_of_methodNamed B.named
  have hlocks := B.notSynchronized
  have hl := lv_entry ([.ref (a 1)]) (n := 1) (Nat.le_of_ble_eq_true rfl)
  rw [lg_entry_eq]
  generalize (lg_sl ([.ref (a 1)]) ++ List.replicate (1 - (lg_sl ([.ref (a 1)])).length) Slot.unset).toArray = ls at hl ⊢
  have hl : lv_has ls 1 [(0, .ref (a 1))] := hl
  refine lv_aload_n hx hb dX2_pathCount_0 rfl (lv_at hl 0 rfl) ?_
  refine va_get (D := D) (ci := 2) (v := .ref (a 6)) (C := RX2) (T := TX2) (N := 4) hx hb hts hin2 hown hK.1 hP 0 rfl rfl 2 (by decide) (hts _ fl_X2_23) (fun _ h9 => h9) rfl dX2_pathCount_1 ?_
  refine ro_V (As := []) (rest := []) ⟨hx, hb, hml, hown, hts⟩ (c_X5_size l D cI cZ (a 6) (a 7) 16 (N_n N) (N_l N) hN16 (by decide)) (cw_X2_33 hts rfl rfl ⟨Nat.le_of_ble_eq_true rfl, Nat.le_of_ble_eq_true rfl⟩) hK (hP.sub [5, 6] rfl) (ci := 5) rfl rfl rfl hl.1 rfl (Nat.le_of_ble_eq_true rfl) dX2_pathCount_4 ⟨Nat.zero_le _, Nat.zero_le _⟩ ?_
  exact ro_iret hx hb hr hlocks (rfl) dX2_pathCount_7

set_option maxHeartbeats 4000000 in
set_option maxRecDepth 100000 in
theorem c_X2_lengthOf (l : Launch) (D : va_G) (cI cZ : ClassId) (a : Nat → Nat) (N : TN) (pb : Nat → Int32) (hN16 : N_n N ≤ 16) (k : Int32) : RO l D cI cZ yX2_lengthOf wyX2_lengthOf ({ frames := 1, cells := 0, slots := 0, locals := 21 } : Room) [.ref (a 1), .int k] (wNet a cI N pb) (rg (N_n N) (N_l N) k) := by
  refine Met.ofW (cc := cX2_lengthOf) (maxL := 2) (ret := (some .int)) (by decide) rfl ?_
  intro p e s m args below meth c s₁ B hml hv
  obtain ⟨rfl, hK, hP⟩ := hv
  have hx := B.exec
  have hb := B.bytes
  have hr := B.returns
  have hts0 := atoms_spec (ws := wyX2_lengthOf) B.pre
  have hts : ∀ w ∈ big, w.before _ s = true := fun w h => hts0 w (List.mem_cons_of_mem _ h)
  have hown : s.vm.findClass RX2 = some m.cls := findClass_of_methodNamed B.named
  have hlocks := B.notSynchronized
  have hl := lv_entry ([.ref (a 1), .int k]) (n := 2) (Nat.le_of_ble_eq_true rfl)
  rw [lg_entry_eq]
  generalize (lg_sl ([.ref (a 1), .int k]) ++ List.replicate (2 - (lg_sl ([.ref (a 1), .int k])).length) Slot.unset).toArray = ls at hl ⊢
  have hl : lv_has ls 2 [(0, .ref (a 1)), (1, .int k)] := hl
  refine lv_aload_n hx hb dX2_lengthOf_0 rfl (lv_at hl 0 rfl) ?_
  refine va_get (D := D) (ci := 2) (v := .ref (a 6)) (C := RX2) (T := TX2) (N := 4) hx hb hts hin2 hown hK.1 hP 0 rfl rfl 2 (by decide) (hts _ fl_X2_23) (fun _ h9 => h9) rfl dX2_lengthOf_1 ?_
  refine lv_iload_n hx hb dX2_lengthOf_4 rfl (lv_at hl 1 rfl) ?_
  refine ro_V (As := [.int k]) (rest := []) ⟨hx, hb, hml, hown, hts⟩ (c_X5_get l D cI cZ (a 6) (a 7) 16 (N_n N) (N_l N) hN16 (by decide) k) (cw_X2_58 hts rfl rfl ⟨Nat.le_of_ble_eq_true rfl, Nat.le_of_ble_eq_true rfl⟩) hK (hP.sub [5, 6] rfl) (ci := 5) rfl rfl rfl hl.1 rfl (Nat.le_of_ble_eq_true rfl) dX2_lengthOf_5 ⟨Nat.zero_le _, Nat.zero_le _⟩ ?_
  exact ro_iret hx hb hr hlocks (rfl) dX2_lengthOf_8

set_option maxHeartbeats 4000000 in
set_option maxRecDepth 100000 in
theorem c_X2_pathsAt (l : Launch) (D : va_G) (cI cZ : ClassId) (a : Nat → Nat) (N : TN) (pb : Nat → Int32) (hN16 : N_n N ≤ 16) (x : Int32) : RO l D cI cZ yX2_pathsAt wyX2_pathsAt ({ frames := 2, cells := 0, slots := 0, locals := 42 } : Room) [.ref (a 1), .int x] (wNet a cI N pb) (zPb pb x) := by
  refine Met.ofW (cc := cX2_pathsAt) (maxL := 2) (ret := (some .int)) (by decide) rfl ?_
  intro p e s m args below meth c s₁ B hml hv
  obtain ⟨rfl, hK, hP⟩ := hv
  have hx := B.exec
  have hb := B.bytes
  have hr := B.returns
  have hts0 := atoms_spec (ws := wyX2_pathsAt) B.pre
  have hts : ∀ w ∈ big, w.before _ s = true := fun w h => hts0 w (List.mem_cons_of_mem _ h)
  have hown : s.vm.findClass RX2 = some m.cls := findClass_of_methodNamed B.named
  have hlocks := B.notSynchronized
  have hl := lv_entry ([.ref (a 1), .int x]) (n := 2) (Nat.le_of_ble_eq_true rfl)
  rw [lg_entry_eq]
  generalize (lg_sl ([.ref (a 1), .int x]) ++ List.replicate (2 - (lg_sl ([.ref (a 1), .int x])).length) Slot.unset).toArray = ls at hl ⊢
  have hl : lv_has ls 2 [(0, .ref (a 1)), (1, .int x)] := hl
  refine lv_iload_n hx hb dX2_pathsAt_0 rfl (lv_at hl 1 rfl) ?_
  refine ro_SN (As := [.int x]) (rest := []) ⟨hx, hb, hml, hown, hts⟩ (c_X9_isPlace l D cI cZ  x) (cw_X2_54 hts rfl rfl hK ⟨Nat.le_of_ble_eq_true rfl, Nat.le_of_ble_eq_true rfl⟩) hK P_nil rfl hl.1 rfl (Nat.le_of_ble_eq_true rfl) dX2_pathsAt_1 ⟨Nat.zero_le _, Nat.zero_le _⟩ ?_
  refine lv_if_eq (tgt := 18) hx hb dX2_pathsAt_4 (by decide) (fun c_1 => ?_) (fun c_1 => ?_)
  · skip
    have c_1 := zb_eq0 c_1
    refine lv_iconst (v := 0) hx hb dX2_pathsAt_18 (by decide) ?_
    exact ro_iret hx hb hr hlocks ((if_neg c_1).symm) dX2_pathsAt_19
  · skip
    have c_1 := zb_ne0 c_1
    refine lv_aload_n hx hb dX2_pathsAt_7 rfl (lv_at hl 0 rfl) ?_
    refine va_get (D := D) (ci := 2) (v := .ref (a 8)) (C := RX2) (T := TX2) (N := 4) hx hb hts hin2 hown hK.1 hP 0 rfl rfl 3 (by decide) (hts _ fl_X2_30) (fun _ h9 => h9) rfl dX2_pathsAt_8 ?_
    refine lv_iload_n hx hb dX2_pathsAt_11 rfl (lv_at hl 1 rfl) ?_
    refine ro_V (As := [.int x]) (rest := []) ⟨hx, hb, hml, hown, hts⟩ (c_X5_get l D cI cZ (a 8) (a 9) 10 10 pb (by decide) (by decide) x) (cw_X2_58 hts rfl rfl ⟨Nat.le_of_ble_eq_true rfl, Nat.le_of_ble_eq_true rfl⟩) hK (hP.sub [7, 8] rfl) (ci := 5) rfl rfl rfl hl.1 rfl (Nat.le_of_ble_eq_true rfl) dX2_pathsAt_12 ⟨Nat.zero_le _, Nat.zero_le _⟩ ?_
    refine lv_goto (tgt := 19) hx hb dX2_pathsAt_15 (by decide) ?_
    exact ro_iret hx hb hr hlocks ((if_pos c_1).symm) dX2_pathsAt_19

set_option maxHeartbeats 4000000 in
set_option maxRecDepth 100000 in
theorem c_X2_allPaths (l : Launch) (D : va_G) (cI cZ : ClassId) (a : Nat → Nat) (N : TN) (pb : Nat → Int32) (hN16 : N_n N ≤ 16) : RO l D cI cZ yX2_allPaths wyX2_allPaths ({ frames := 2, cells := 0, slots := 0, locals := 40 } : Room) [.ref (a 1)] (wNet a cI N pb) (((1 : Int32) <<< (nI (N_n N) &&& 31)) - 1) := by
  refine Met.ofW (cc := cX2_allPaths) (maxL := 1) (ret := (some .int)) (by decide) rfl ?_
  intro p e s m args below meth c s₁ B hml hv
  obtain ⟨rfl, hK, hP⟩ := hv
  have hx := B.exec
  have hb := B.bytes
  have hr := B.returns
  have hts0 := atoms_spec (ws := wyX2_allPaths) B.pre
  have hts : ∀ w ∈ big, w.before _ s = true := fun w h => hts0 w (List.mem_cons_of_mem _ h)
  have hown : s.vm.findClass RX2 = some m.cls := findClass_of_methodNamed B.named
  have hlocks := B.notSynchronized
  have hl := lv_entry ([.ref (a 1)]) (n := 1) (Nat.le_of_ble_eq_true rfl)
  rw [lg_entry_eq]
  generalize (lg_sl ([.ref (a 1)]) ++ List.replicate (1 - (lg_sl ([.ref (a 1)])).length) Slot.unset).toArray = ls at hl ⊢
  have hl : lv_has ls 1 [(0, .ref (a 1))] := hl
  refine lv_iconst (v := 1) hx hb dX2_allPaths_0 (by decide) ?_
  refine lv_aload_n hx hb dX2_allPaths_1 rfl (lv_at hl 0 rfl) ?_
  refine ro_V (As := []) (rest := [.int 1]) ⟨hx, hb, hml, hown, hts⟩ (c_X2_pathCount l D cI cZ a N pb hN16) (cw_X2_37 hts rfl rfl ⟨Nat.le_of_ble_eq_true rfl, Nat.le_of_ble_eq_true rfl⟩) hK hP (ci := 2) rfl rfl rfl hl.1 rfl (Nat.le_of_ble_eq_true rfl) dX2_allPaths_2 ⟨Nat.zero_le _, Nat.zero_le _⟩ ?_
  refine lv_ishl hx hb dX2_allPaths_5 ?_
  refine lv_iconst (v := 1) hx hb dX2_allPaths_6 (by decide) ?_
  refine lv_isub hx hb dX2_allPaths_7 ?_
  exact ro_iret hx hb hr hlocks (rfl) dX2_allPaths_8

set_option maxHeartbeats 4000000 in
set_option maxRecDepth 100000 in
theorem c_X2_touches (l : Launch) (D : va_G) (cI cZ : ClassId) (a : Nat → Nat) (N : TN) (pb : Nat → Int32) (hN16 : N_n N ≤ 16) (k x : Int32) : RO l D cI cZ yX2_touches wyX2_touches ({ frames := 3, cells := 0, slots := 0, locals := 63 } : Room) [.ref (a 1), .int k, .int x] (wNet a cI N pb) (zb (jTo pb k x = true)) := by
  refine Met.ofW (cc := cX2_touches) (maxL := 3) (ret := (some .boolean)) (by decide) rfl ?_
  intro p e s m args below meth c s₁ B hml hv
  obtain ⟨rfl, hK, hP⟩ := hv
  have hx := B.exec
  have hb := B.bytes
  have hr := B.returns
  have hts0 := atoms_spec (ws := wyX2_touches) B.pre
  have hts : ∀ w ∈ big, w.before _ s = true := fun w h => hts0 w (List.mem_cons_of_mem _ h)
  have hown : s.vm.findClass RX2 = some m.cls := findClass_of_methodNamed B.named
  have hlocks := B.notSynchronized
  have hl := lv_entry ([.ref (a 1), .int k, .int x]) (n := 3) (Nat.le_of_ble_eq_true rfl)
  rw [lg_entry_eq]
  generalize (lg_sl ([.ref (a 1), .int k, .int x]) ++ List.replicate (3 - (lg_sl ([.ref (a 1), .int k, .int x])).length) Slot.unset).toArray = ls at hl ⊢
  have hl : lv_has ls 3 [(0, .ref (a 1)), (1, .int k), (2, .int x)] := hl
  refine lv_aload_n hx hb dX2_touches_0 rfl (lv_at hl 0 rfl) ?_
  refine lv_iload_n hx hb dX2_touches_1 rfl (lv_at hl 2 rfl) ?_
  refine ro_V (As := [.int x]) (rest := []) ⟨hx, hb, hml, hown, hts⟩ (c_X2_pathsAt l D cI cZ a N pb hN16 x) (cw_X2_44 hts rfl rfl ⟨Nat.le_of_ble_eq_true rfl, Nat.le_of_ble_eq_true rfl⟩) hK hP (ci := 2) rfl rfl rfl hl.1 rfl (Nat.le_of_ble_eq_true rfl) dX2_touches_2 ⟨Nat.zero_le _, Nat.zero_le _⟩ ?_
  refine lv_iload_n hx hb dX2_touches_5 rfl (lv_at hl 1 rfl) ?_
  refine ro_SN (As := [.int k]) (rest := [.int (zPb pb x)]) ⟨hx, hb, hml, hown, hts⟩ (c_X9_bitOf l D cI cZ  k) (cw_X2_47 hts rfl rfl hK ⟨Nat.le_of_ble_eq_true rfl, Nat.le_of_ble_eq_true rfl⟩) hK P_nil rfl hl.1 rfl (Nat.le_of_ble_eq_true rfl) dX2_touches_6 ⟨Nat.zero_le _, Nat.zero_le _⟩ ?_
  refine lv_iand hx hb dX2_touches_9 ?_
  refine lv_if_eq (tgt := 17) hx hb dX2_touches_10 (by decide) (fun c_1 => ?_) (fun c_1 => ?_)
  · skip
    refine lv_iconst (v := 0) hx hb dX2_touches_17 (by decide) ?_
    exact ro_zret hx hb hr hlocks (nar_zb _) ((zb_f (by unfold jTo; rw [decide_eq_true_eq]; exact fun z => z c_1)).symm) dX2_touches_18
  · skip
    refine lv_iconst (v := 1) hx hb dX2_touches_13 (by decide) ?_
    refine lv_goto (tgt := 18) hx hb dX2_touches_14 (by decide) ?_
    exact ro_zret hx hb hr hlocks (nar_zb _) ((zb_t (by unfold jTo; exact decide_eq_true c_1)).symm) dX2_touches_18

set_option maxHeartbeats 4000000 in
set_option maxRecDepth 100000 in
theorem c_X2_joining (l : Launch) (D : va_G) (cI cZ : ClassId) (a : Nat → Nat) (N : TN) (pb : Nat → Int32) (hN16 : N_n N ≤ 16) (x x2 : Int32) : RO l D cI cZ yX2_joining wyX2_joining ({ frames := 3, cells := 0, slots := 0, locals := 63 } : Room) [.ref (a 1), .int x, .int x2] (wNet a cI N pb) (jJo pb x x2) := by
  refine Met.ofW (cc := cX2_joining) (maxL := 4) (ret := (some .int)) (by decide) rfl ?_
  intro p e s m args below meth c s₁ B hml hv
  obtain ⟨rfl, hK, hP⟩ := hv
  have hx := B.exec
  have hb := B.bytes
  have hr := B.returns
  have hts0 := atoms_spec (ws := wyX2_joining) B.pre
  have hts : ∀ w ∈ big, w.before _ s = true := fun w h => hts0 w (List.mem_cons_of_mem _ h)
  have hown : s.vm.findClass RX2 = some m.cls := findClass_of_methodNamed B.named
  have hlocks := B.notSynchronized
  have hl := lv_entry ([.ref (a 1), .int x, .int x2]) (n := 4) (Nat.le_of_ble_eq_true rfl)
  rw [lg_entry_eq]
  generalize (lg_sl ([.ref (a 1), .int x, .int x2]) ++ List.replicate (4 - (lg_sl ([.ref (a 1), .int x, .int x2])).length) Slot.unset).toArray = ls at hl ⊢
  have hl : lv_has ls 4 [(0, .ref (a 1)), (1, .int x), (2, .int x2)] := hl
  refine w_join (α := Int32) (fun a9 => a9 = jBo pb x x2) (fun a9 => [(0, .ref (a 1)), (1, .int x), (2, .int x2), (3, .int a9)]) (fun a9 => []) 21 4 (fun hJ_21 => ?_) ?_
  · skip
    refine lv_iload_n hx hb dX2_joining_0 rfl (lv_at hl 1 rfl) ?_
    refine lv_iload_n hx hb dX2_joining_1 rfl (lv_at hl 2 rfl) ?_
    refine lv_icmp_ne (tgt := 9) hx hb dX2_joining_2 (by decide) (fun c_1 => ?_) (fun c_1 => ?_)
    · skip
      refine lv_aload_n hx hb dX2_joining_9 rfl (lv_at hl 0 rfl) ?_
      refine lv_iload_n hx hb dX2_joining_10 rfl (lv_at hl 1 rfl) ?_
      refine ro_V (As := [.int x]) (rest := []) ⟨hx, hb, hml, hown, hts⟩ (c_X2_pathsAt l D cI cZ a N pb hN16 x) (cw_X2_44 hts rfl rfl ⟨Nat.le_of_ble_eq_true rfl, Nat.le_of_ble_eq_true rfl⟩) hK hP (ci := 2) rfl rfl rfl hl.1 rfl (Nat.le_of_ble_eq_true rfl) dX2_joining_11 ⟨Nat.zero_le _, Nat.zero_le _⟩ ?_
      refine lv_aload_n hx hb dX2_joining_14 rfl (lv_at hl 0 rfl) ?_
      refine lv_iload_n hx hb dX2_joining_15 rfl (lv_at hl 2 rfl) ?_
      refine ro_V (As := [.int x2]) (rest := [.int (zPb pb x)]) ⟨hx, hb, hml, hown, hts⟩ (c_X2_pathsAt l D cI cZ a N pb hN16 x2) (cw_X2_44 hts rfl rfl ⟨Nat.le_of_ble_eq_true rfl, Nat.le_of_ble_eq_true rfl⟩) hK hP (ci := 2) rfl rfl rfl hl.1 rfl (Nat.le_of_ble_eq_true rfl) dX2_joining_16 ⟨Nat.zero_le _, Nat.zero_le _⟩ ?_
      refine lv_iand hx hb dX2_joining_19 ?_
      refine lv_istore_n (lv' := [(3, .int ((zPb pb x) &&& (zPb pb x2))), (0, .ref (a 1)), (1, .int x), (2, .int x2)]) hx hb dX2_joining_20 rfl hl (by decide) rfl (fun ls hl => ?_)
      exact hJ_21 (((zPb pb x) &&& (zPb pb x2))) ls (show (((zPb pb x) &&& (zPb pb x2))) = jBo pb x x2 from by unfold jBo; simp [c_1]) (show lv_has ls 4 [(0, .ref (a 1)), (1, .int x), (2, .int x2), (3, .int (((zPb pb x) &&& (zPb pb x2))))] from lv_sub hl [1, 2, 3, 0] rfl)
    · skip
      refine lv_iconst (v := 0) hx hb dX2_joining_5 (by decide) ?_
      refine lv_goto (tgt := 20) hx hb dX2_joining_6 (by decide) ?_
      refine lv_istore_n (lv' := [(3, .int 0), (0, .ref (a 1)), (1, .int x), (2, .int x2)]) hx hb dX2_joining_20 rfl hl (by decide) rfl (fun ls hl => ?_)
      exact hJ_21 (0) ls (show (0) = jBo pb x x2 from by unfold jBo; simp [c_1]) (show lv_has ls 4 [(0, .ref (a 1)), (1, .int x), (2, .int x2), (3, .int (0))] from lv_sub hl [1, 2, 3, 0] rfl)
  · skip
    intro a9 ls hI hl
    obtain ⟨y, rfl⟩ : ∃ z, z = a9 := ⟨a9, rfl⟩
    have hI : y = jBo pb x x2 := hI
    have hl : lv_has ls 4 [(0, .ref (a 1)), (1, .int x), (2, .int x2), (3, .int y)] := hl
    refine lv_iload_n hx hb dX2_joining_21 rfl (lv_at hl 3 rfl) ?_
    refine lv_if_ne (tgt := 29) hx hb dX2_joining_22 (by decide) (fun c_2 => ?_) (fun c_2 => ?_)
    · skip
      refine lv_iload_n hx hb dX2_joining_29 rfl (lv_at hl 3 rfl) ?_
      refine lv_iconst (v := 1) hx hb dX2_joining_30 (by decide) ?_
      refine lv_isub hx hb dX2_joining_31 ?_
      refine ro_S (As := [.int (y - 1)]) (rest := []) ⟨hx, hb, hml, hown, hts⟩ (c_J6_bitCount_0f7a4 l D cI cZ  (y - 1)) (cw_X2_61 hts rfl rfl ⟨Nat.le_of_ble_eq_true rfl, Nat.le_of_ble_eq_true rfl⟩) hK P_nil rfl hl.1 rfl (Nat.le_of_ble_eq_true rfl) dX2_joining_32 ⟨Nat.zero_le _, Nat.zero_le _⟩ ?_
      exact ro_iret hx hb hr hlocks (by unfold jJo; rw [← hI]; simp [c_2]) dX2_joining_35
    · skip
      refine lv_iconst (v := (-1)) hx hb dX2_joining_25 (by decide) ?_
      refine lv_goto (tgt := 35) hx hb dX2_joining_26 (by decide) ?_
      exact ro_iret hx hb hr hlocks (by unfold jJo; rw [← hI]; simp [c_2]) dX2_joining_35

set_option maxHeartbeats 4000000 in
set_option maxRecDepth 100000 in
theorem c_X2_arcFrom (l : Launch) (D : va_G) (cI cZ : ClassId) (a : Nat → Nat) (N : TN) (pb : Nat → Int32) (hN16 : N_n N ≤ 16) (x k : Int32) : RO l D cI cZ yX2_arcFrom wyX2_arcFrom ({ frames := 1, cells := 0, slots := 0, locals := 21 } : Room) [.ref (a 1), .int x, .int k] (wNet a cI N pb) (jArc N x k) := by
  refine Met.ofW (cc := cX2_arcFrom) (maxL := 3) (ret := (some .int)) (by decide) rfl ?_
  intro p e s m args below meth c s₁ B hml hv
  obtain ⟨rfl, hK, hP⟩ := hv
  have hx := B.exec
  have hb := B.bytes
  have hr := B.returns
  have hts0 := atoms_spec (ws := wyX2_arcFrom) B.pre
  have hts : ∀ w ∈ big, w.before _ s = true := fun w h => hts0 w (List.mem_cons_of_mem _ h)
  have hown : s.vm.findClass RX2 = some m.cls := findClass_of_methodNamed B.named
  have hlocks := B.notSynchronized
  have hl := lv_entry ([.ref (a 1), .int x, .int k]) (n := 3) (Nat.le_of_ble_eq_true rfl)
  rw [lg_entry_eq]
  generalize (lg_sl ([.ref (a 1), .int x, .int k]) ++ List.replicate (3 - (lg_sl ([.ref (a 1), .int x, .int k])).length) Slot.unset).toArray = ls at hl ⊢
  have hl : lv_has ls 3 [(0, .ref (a 1)), (1, .int x), (2, .int k)] := hl
  refine lv_iconst (v := 2) hx hb dX2_arcFrom_0 (by decide) ?_
  refine lv_iload_n hx hb dX2_arcFrom_1 rfl (lv_at hl 2 rfl) ?_
  refine lv_imul hx hb dX2_arcFrom_2 ?_
  refine lv_aload_n hx hb dX2_arcFrom_3 rfl (lv_at hl 0 rfl) ?_
  refine va_get (D := D) (ci := 2) (v := .ref (a 2)) (C := RX2) (T := TX2) (N := 4) hx hb hts hin2 hown hK.1 hP 0 rfl rfl 0 (by decide) (hts _ fl_X2_14) (fun _ h9 => h9) rfl dX2_arcFrom_4 ?_
  refine lv_iload_n hx hb dX2_arcFrom_7 rfl (lv_at hl 2 rfl) ?_
  refine ro_V (As := [.int k]) (rest := [.int (2 * k)]) ⟨hx, hb, hml, hown, hts⟩ (c_X5_get l D cI cZ (a 2) (a 3) 16 (N_n N) (N_a N) hN16 (by decide) k) (cw_X2_58 hts rfl rfl ⟨Nat.le_of_ble_eq_true rfl, Nat.le_of_ble_eq_true rfl⟩) hK (hP.sub [1, 2] rfl) (ci := 5) rfl rfl rfl hl.1 rfl (Nat.le_of_ble_eq_true rfl) dX2_arcFrom_8 ⟨Nat.zero_le _, Nat.zero_le _⟩ ?_
  refine lv_iload_n hx hb dX2_arcFrom_11 rfl (lv_at hl 1 rfl) ?_
  refine lv_icmp_ne (tgt := 19) hx hb dX2_arcFrom_12 (by decide) (fun c_1 => ?_) (fun c_1 => ?_)
  · skip
    refine lv_iconst (v := 0) hx hb dX2_arcFrom_19 (by decide) ?_
    refine lv_iadd hx hb dX2_arcFrom_20 ?_
    exact ro_iret hx hb hr hlocks (by unfold jArc; simp [c_1]) dX2_arcFrom_21
  · skip
    refine lv_iconst (v := 1) hx hb dX2_arcFrom_15 (by decide) ?_
    refine lv_goto (tgt := 20) hx hb dX2_arcFrom_16 (by decide) ?_
    refine lv_iadd hx hb dX2_arcFrom_20 ?_
    exact ro_iret hx hb hr hlocks (by unfold jArc; simp [c_1]) dX2_arcFrom_21

set_option maxHeartbeats 4000000 in
set_option maxRecDepth 100000 in
theorem c_X2_endOf (l : Launch) (D : va_G) (cI cZ : ClassId) (a : Nat → Nat) (N : TN) (pb : Nat → Int32) (hN16 : N_n N ≤ 16) (k : Int32) : RO l D cI cZ yX2_endOf wyX2_endOf ({ frames := 1, cells := 0, slots := 0, locals := 21 } : Room) [.ref (a 1), .int k] (wNet a cI N pb) (jEnd N k) := by
  refine Met.ofW (cc := cX2_endOf) (maxL := 2) (ret := (some .int)) (by decide) rfl ?_
  intro p e s m args below meth c s₁ B hml hv
  obtain ⟨rfl, hK, hP⟩ := hv
  have hx := B.exec
  have hb := B.bytes
  have hr := B.returns
  have hts0 := atoms_spec (ws := wyX2_endOf) B.pre
  have hts : ∀ w ∈ big, w.before _ s = true := fun w h => hts0 w (List.mem_cons_of_mem _ h)
  have hown : s.vm.findClass RX2 = some m.cls := findClass_of_methodNamed B.named
  have hlocks := B.notSynchronized
  have hl := lv_entry ([.ref (a 1), .int k]) (n := 2) (Nat.le_of_ble_eq_true rfl)
  rw [lg_entry_eq]
  generalize (lg_sl ([.ref (a 1), .int k]) ++ List.replicate (2 - (lg_sl ([.ref (a 1), .int k])).length) Slot.unset).toArray = ls at hl ⊢
  have hl : lv_has ls 2 [(0, .ref (a 1)), (1, .int k)] := hl
  refine lv_iload_n hx hb dX2_endOf_0 rfl (lv_at hl 1 rfl) ?_
  refine lv_iconst (v := 1) hx hb dX2_endOf_1 (by decide) ?_
  refine lv_iand hx hb dX2_endOf_2 ?_
  refine lv_if_ne (tgt := 19) hx hb dX2_endOf_3 (by decide) (fun c_1 => ?_) (fun c_1 => ?_)
  · skip
    refine lv_aload_n hx hb dX2_endOf_19 rfl (lv_at hl 0 rfl) ?_
    refine va_get (D := D) (ci := 2) (v := .ref (a 4)) (C := RX2) (T := TX2) (N := 4) hx hb hts hin2 hown hK.1 hP 0 rfl rfl 1 (by decide) (hts _ fl_X2_20) (fun _ h9 => h9) rfl dX2_endOf_20 ?_
    refine lv_iload_n hx hb dX2_endOf_23 rfl (lv_at hl 1 rfl) ?_
    refine lv_iconst (v := 1) hx hb dX2_endOf_24 (by decide) ?_
    refine lv_ishr hx hb dX2_endOf_25 ?_
    refine ro_V (As := [.int (k >>> (1 &&& 31))]) (rest := []) ⟨hx, hb, hml, hown, hts⟩ (c_X5_get l D cI cZ (a 4) (a 5) 16 (N_n N) (N_b N) hN16 (by decide) (k >>> (1 &&& 31))) (cw_X2_58 hts rfl rfl ⟨Nat.le_of_ble_eq_true rfl, Nat.le_of_ble_eq_true rfl⟩) hK (hP.sub [3, 4] rfl) (ci := 5) rfl rfl rfl hl.1 rfl (Nat.le_of_ble_eq_true rfl) dX2_endOf_26 ⟨Nat.zero_le _, Nat.zero_le _⟩ ?_
    exact ro_iret hx hb hr hlocks (by unfold jEnd; simp [c_1]) dX2_endOf_29
  · skip
    refine lv_aload_n hx hb dX2_endOf_6 rfl (lv_at hl 0 rfl) ?_
    refine va_get (D := D) (ci := 2) (v := .ref (a 2)) (C := RX2) (T := TX2) (N := 4) hx hb hts hin2 hown hK.1 hP 0 rfl rfl 0 (by decide) (hts _ fl_X2_14) (fun _ h9 => h9) rfl dX2_endOf_7 ?_
    refine lv_iload_n hx hb dX2_endOf_10 rfl (lv_at hl 1 rfl) ?_
    refine lv_iconst (v := 1) hx hb dX2_endOf_11 (by decide) ?_
    refine lv_ishr hx hb dX2_endOf_12 ?_
    refine ro_V (As := [.int (k >>> (1 &&& 31))]) (rest := []) ⟨hx, hb, hml, hown, hts⟩ (c_X5_get l D cI cZ (a 2) (a 3) 16 (N_n N) (N_a N) hN16 (by decide) (k >>> (1 &&& 31))) (cw_X2_58 hts rfl rfl ⟨Nat.le_of_ble_eq_true rfl, Nat.le_of_ble_eq_true rfl⟩) hK (hP.sub [1, 2] rfl) (ci := 5) rfl rfl rfl hl.1 rfl (Nat.le_of_ble_eq_true rfl) dX2_endOf_13 ⟨Nat.zero_le _, Nat.zero_le _⟩ ?_
    refine lv_goto (tgt := 29) hx hb dX2_endOf_16 (by decide) ?_
    exact ro_iret hx hb hr hlocks (by unfold jEnd; simp [c_1]) dX2_endOf_29

set_option maxHeartbeats 4000000 in
set_option maxRecDepth 100000 in
theorem c_X2_otherEnd (l : Launch) (D : va_G) (cI cZ : ClassId) (a : Nat → Nat) (N : TN) (pb : Nat → Int32) (hN16 : N_n N ≤ 16) (x k : Int32) : RO l D cI cZ yX2_otherEnd wyX2_otherEnd ({ frames := 2, cells := 0, slots := 0, locals := 43 } : Room) [.ref (a 1), .int x, .int k] (wNet a cI N pb) (jOE N x k) := by
  refine Met.ofW (cc := cX2_otherEnd) (maxL := 3) (ret := (some .int)) (by decide) rfl ?_
  intro p e s m args below meth c s₁ B hml hv
  obtain ⟨rfl, hK, hP⟩ := hv
  have hx := B.exec
  have hb := B.bytes
  have hr := B.returns
  have hts0 := atoms_spec (ws := wyX2_otherEnd) B.pre
  have hts : ∀ w ∈ big, w.before _ s = true := fun w h => hts0 w (List.mem_cons_of_mem _ h)
  have hown : s.vm.findClass RX2 = some m.cls := findClass_of_methodNamed B.named
  have hlocks := B.notSynchronized
  have hl := lv_entry ([.ref (a 1), .int x, .int k]) (n := 3) (Nat.le_of_ble_eq_true rfl)
  rw [lg_entry_eq]
  generalize (lg_sl ([.ref (a 1), .int x, .int k]) ++ List.replicate (3 - (lg_sl ([.ref (a 1), .int x, .int k])).length) Slot.unset).toArray = ls at hl ⊢
  have hl : lv_has ls 3 [(0, .ref (a 1)), (1, .int x), (2, .int k)] := hl
  refine lv_aload_n hx hb dX2_otherEnd_0 rfl (lv_at hl 0 rfl) ?_
  refine lv_aload_n hx hb dX2_otherEnd_1 rfl (lv_at hl 0 rfl) ?_
  refine lv_iload_n hx hb dX2_otherEnd_2 rfl (lv_at hl 1 rfl) ?_
  refine lv_iload_n hx hb dX2_otherEnd_3 rfl (lv_at hl 2 rfl) ?_
  refine ro_V (As := [.int x, .int k]) (rest := [.ref (a 1)]) ⟨hx, hb, hml, hown, hts⟩ (c_X2_arcFrom l D cI cZ a N pb hN16 x k) (cw_X2_66 hts rfl rfl ⟨Nat.le_of_ble_eq_true rfl, Nat.le_of_ble_eq_true rfl⟩) hK hP (ci := 2) rfl rfl rfl hl.1 rfl (Nat.le_of_ble_eq_true rfl) dX2_otherEnd_4 ⟨Nat.zero_le _, Nat.zero_le _⟩ ?_
  refine ro_V (As := [.int (jArc N x k)]) (rest := []) ⟨hx, hb, hml, hown, hts⟩ (c_X2_endOf l D cI cZ a N pb hN16 (jArc N x k)) (cw_X2_70 hts rfl rfl ⟨Nat.le_of_ble_eq_true rfl, Nat.le_of_ble_eq_true rfl⟩) hK hP (ci := 2) rfl rfl rfl hl.1 rfl (Nat.le_of_ble_eq_true rfl) dX2_otherEnd_7 ⟨Nat.zero_le _, Nat.zero_le _⟩ ?_
  exact ro_iret hx hb hr hlocks (rfl) dX2_otherEnd_10

def jJoin (N : TN) (x x2 x3 : Int32) : TN := ((N_n N + 1), (upd (N_a N) (N_n N) x), (upd (N_b N) (N_n N) x2), (upd (N_l N) (N_n N) x3))
def jJpb (N : TN) (pb : Nat → Int32) (x x2 : Int32) : Nat → Int32 := (rp 10 (rp 10 pb x (zPb pb x ||| zbt (nI (N_n N)))) x2 (zPb (rp 10 pb x (zPb pb x ||| zbt (nI (N_n N)))) x2 ||| zbt (nI (N_n N))))
set_option maxHeartbeats 4000000 in
set_option maxRecDepth 100000 in
theorem c_X2_join (l : Launch) (D : va_G) (cI cZ : ClassId) (a : Nat → Nat) (N : TN) (pb : Nat → Int32) (hN16 : N_n N < 16) (x x2 x3 : Int32) : MI l D cI cZ yX2_join wyX2_join ({ frames := 3, cells := 0, slots := 0, locals := 63 } : Room) [.ref (a 1), .int x, .int x2, .int x3] (wNet a cI N pb) (fun r _ => r = nI (N_n N)) (fun (_ : Unit) => wNet a cI (jJoin N x x2 x3) (jJpb N pb x x2)) := by
  refine Met.ofW (cc := cX2_join) (maxL := 5) (ret := (some .int)) (by decide) rfl ?_
  intro p e s m args below meth c s₁ B hml hv
  obtain ⟨rfl, hK, hP, hD0⟩ := hv
  have hx := B.exec
  have hb := B.bytes
  have hr := B.returns
  have hts0 := atoms_spec (ws := wyX2_join) B.pre
  have hts : ∀ w ∈ big, w.before _ s = true := fun w h => hts0 w (List.mem_cons_of_mem _ h)
  have hown : s.vm.findClass RX2 = some m.cls := findClass_of_methodNamed B.named
  have hlocks := B.notSynchronized
  have hD := D_inW hD0
  have hS : va_S (inW (wNet a cI N pb)) s.heap s.heap [] := va_S.rf
  have hl := lv_entry ([.ref (a 1), .int x, .int x2, .int x3]) (n := 5) (Nat.le_of_ble_eq_true rfl)
  rw [lg_entry_eq]
  generalize (lg_sl ([.ref (a 1), .int x, .int x2, .int x3]) ++ List.replicate (5 - (lg_sl ([.ref (a 1), .int x, .int x2, .int x3])).length) Slot.unset).toArray = ls at hl ⊢
  have hl : lv_has ls 5 [(0, .ref (a 1)), (1, .int x), (2, .int x2), (3, .int x3)] := hl
  refine lv_aload_n hx hb dX2_join_0 rfl (lv_at hl 0 rfl) ?_
  refine ro_V (As := []) (rest := []) ⟨hx, hb, hml, hown, hts⟩ (c_X2_pathCount l D cI cZ a N pb (Nat.le_of_lt hN16)) (cw_X2_37 hts rfl rfl ⟨Nat.le_of_ble_eq_true rfl, Nat.le_of_ble_eq_true rfl⟩) hK hP (ci := 2) rfl rfl rfl hl.1 rfl (Nat.le_of_ble_eq_true rfl) dX2_join_1 ⟨Nat.zero_le _, Nat.zero_le _⟩ ?_
  refine lv_istore (lv' := [(4, .int (nI (N_n N))), (0, .ref (a 1)), (1, .int x), (2, .int x2), (3, .int x3)]) hx hb dX2_join_4 hl (by decide) rfl (fun ls hl => ?_)
  refine lv_aload_n hx hb dX2_join_6 rfl (lv_at hl 1 rfl) ?_
  refine va_get (D := D) (ci := 2) (v := .ref (a 2)) (C := RX2) (T := TX2) (N := 4) hx hb hts hin2 hown hK.1 hP 0 rfl rfl 0 (by decide) (hts _ fl_X2_14) (fun _ h9 => h9) rfl dX2_join_7 ?_
  refine lv_iload_n hx hb dX2_join_10 rfl (lv_at hl 2 rfl) ?_
  refine mi_V2 (As := [.int x]) (rest := []) ⟨hx, hb, hml, hown, hts⟩ (c_X5_push l D cI cZ (a 2) (a 3) 16 (N_n N) (N_a N) hN16 (by decide) x) (cw_X2_40 hts rfl rfl ⟨Nat.le_of_ble_eq_true rfl, Nat.le_of_ble_eq_true rfl⟩) hK hP hD hS 9 rfl [1, 2] [0, 3, 4, 5, 6, 7, 8] (fun (_ : Unit) => ([((a 1), .inr (2, [.ref (a 2), .ref (a 4), .ref (a 6), .ref (a 8)])), ((a 2), .inr (5, [.ref (a 3), .int (nI ((N_n N) + 1))])), ((a 3), .inl (cI, (16, .inl (upd (N_a N) (N_n N) x)))), ((a 4), .inr (5, [.ref (a 5), .int (nI (N_n N))])), ((a 5), .inl (cI, (16, .inl (N_b N)))), ((a 6), .inr (5, [.ref (a 7), .int (nI (N_n N))])), ((a 7), .inl (cI, (16, .inl (N_l N)))), ((a 8), .inr (5, [.ref (a 9), .int (nI 10)])), ((a 9), .inl (cI, (10, .inl pb)))] : va_W)) rfl (by decide) (fun u => rfl) [(a 2), (a 3)] rfl (fun u => rfl) ([((a 1), .inr (2, [.ref (a 2), .ref (a 4), .ref (a 6), .ref (a 8)])), ((a 4), .inr (5, [.ref (a 5), .int (nI (N_n N))])), ((a 5), .inl (cI, (16, .inl (N_b N)))), ((a 6), .inr (5, [.ref (a 7), .int (nI (N_n N))])), ((a 7), .inl (cI, (16, .inl (N_l N)))), ((a 8), .inr (5, [.ref (a 9), .int (nI 10)])), ((a 9), .inl (cI, (10, .inl pb)))] : va_W) rfl (fun u => rfl) [(a 1), (a 2), (a 3), (a 4), (a 5), (a 6), (a 7), (a 8), (a 9)] rfl (fun u => rfl) (by decide) (by decide) (by decide) (ci := 5) rfl rfl rfl hl.1 rfl (Nat.le_of_ble_eq_true rfl) dX2_join_11 ⟨Nat.zero_le _, Nat.zero_le _⟩ (fun r u H locs hp hP hD hS => ?_)
  have hp : r = nI ((N_n N) + 1) := hp
  subst hp
  have hP : va_P D vwCl (([((a 1), .inr (2, [.ref (a 2), .ref (a 4), .ref (a 6), .ref (a 8)])), ((a 2), .inr (5, [.ref (a 3), .int (nI ((N_n N) + 1))])), ((a 3), .inl (cI, (16, .inl (upd (N_a N) (N_n N) x)))), ((a 4), .inr (5, [.ref (a 5), .int (nI (N_n N))])), ((a 5), .inl (cI, (16, .inl (N_b N)))), ((a 6), .inr (5, [.ref (a 7), .int (nI (N_n N))])), ((a 7), .inl (cI, (16, .inl (N_l N)))), ((a 8), .inr (5, [.ref (a 9), .int (nI 10)])), ((a 9), .inl (cI, (10, .inl pb)))] : va_W)) H := hP
  have hD : va_D _ (([((a 1), .inr (2, [.ref (a 2), .ref (a 4), .ref (a 6), .ref (a 8)])), ((a 2), .inr (5, [.ref (a 3), .int (nI ((N_n N) + 1))])), ((a 3), .inl (cI, (16, .inl (upd (N_a N) (N_n N) x)))), ((a 4), .inr (5, [.ref (a 5), .int (nI (N_n N))])), ((a 5), .inl (cI, (16, .inl (N_b N)))), ((a 6), .inr (5, [.ref (a 7), .int (nI (N_n N))])), ((a 7), .inl (cI, (16, .inl (N_l N)))), ((a 8), .inr (5, [.ref (a 9), .int (nI 10)])), ((a 9), .inl (cI, (10, .inl pb)))] : va_W)) := hD
  refine lv_pop hx hb dX2_join_14 rfl ?_
  refine lv_aload_n hx hb dX2_join_15 rfl (lv_at hl 1 rfl) ?_
  refine va_get (D := D) (ci := 2) (v := .ref (a 4)) (C := RX2) (T := TX2) (N := 4) hx hb hts hin2 hown hK.1 hP 0 rfl rfl 1 (by decide) (hts _ fl_X2_20) (fun _ h9 => h9) rfl dX2_join_16 ?_
  refine lv_iload_n hx hb dX2_join_19 rfl (lv_at hl 3 rfl) ?_
  refine mi_V2 (As := [.int x2]) (rest := []) ⟨hx, hb, hml, hown, hts⟩ (c_X5_push l D cI cZ (a 4) (a 5) 16 (N_n N) (N_b N) hN16 (by decide) x2) (cw_X2_40 hts rfl rfl ⟨Nat.le_of_ble_eq_true rfl, Nat.le_of_ble_eq_true rfl⟩) hK hP hD hS 9 rfl [3, 4] [0, 1, 2, 5, 6, 7, 8] (fun (_ : Unit) => ([((a 1), .inr (2, [.ref (a 2), .ref (a 4), .ref (a 6), .ref (a 8)])), ((a 2), .inr (5, [.ref (a 3), .int (nI ((N_n N) + 1))])), ((a 3), .inl (cI, (16, .inl (upd (N_a N) (N_n N) x)))), ((a 4), .inr (5, [.ref (a 5), .int (nI ((N_n N) + 1))])), ((a 5), .inl (cI, (16, .inl (upd (N_b N) (N_n N) x2)))), ((a 6), .inr (5, [.ref (a 7), .int (nI (N_n N))])), ((a 7), .inl (cI, (16, .inl (N_l N)))), ((a 8), .inr (5, [.ref (a 9), .int (nI 10)])), ((a 9), .inl (cI, (10, .inl pb)))] : va_W)) rfl (by decide) (fun u => rfl) [(a 4), (a 5)] rfl (fun u => rfl) ([((a 1), .inr (2, [.ref (a 2), .ref (a 4), .ref (a 6), .ref (a 8)])), ((a 2), .inr (5, [.ref (a 3), .int (nI ((N_n N) + 1))])), ((a 3), .inl (cI, (16, .inl (upd (N_a N) (N_n N) x)))), ((a 6), .inr (5, [.ref (a 7), .int (nI (N_n N))])), ((a 7), .inl (cI, (16, .inl (N_l N)))), ((a 8), .inr (5, [.ref (a 9), .int (nI 10)])), ((a 9), .inl (cI, (10, .inl pb)))] : va_W) rfl (fun u => rfl) [(a 1), (a 2), (a 3), (a 4), (a 5), (a 6), (a 7), (a 8), (a 9)] rfl (fun u => rfl) (by decide) (by decide) (by decide) (ci := 5) rfl rfl rfl hl.1 rfl (Nat.le_of_ble_eq_true rfl) dX2_join_20 ⟨Nat.zero_le _, Nat.zero_le _⟩ (fun r u H locs hp hP hD hS => ?_)
  have hp : r = nI ((N_n N) + 1) := hp
  subst hp
  have hP : va_P D vwCl (([((a 1), .inr (2, [.ref (a 2), .ref (a 4), .ref (a 6), .ref (a 8)])), ((a 2), .inr (5, [.ref (a 3), .int (nI ((N_n N) + 1))])), ((a 3), .inl (cI, (16, .inl (upd (N_a N) (N_n N) x)))), ((a 4), .inr (5, [.ref (a 5), .int (nI ((N_n N) + 1))])), ((a 5), .inl (cI, (16, .inl (upd (N_b N) (N_n N) x2)))), ((a 6), .inr (5, [.ref (a 7), .int (nI (N_n N))])), ((a 7), .inl (cI, (16, .inl (N_l N)))), ((a 8), .inr (5, [.ref (a 9), .int (nI 10)])), ((a 9), .inl (cI, (10, .inl pb)))] : va_W)) H := hP
  have hD : va_D _ (([((a 1), .inr (2, [.ref (a 2), .ref (a 4), .ref (a 6), .ref (a 8)])), ((a 2), .inr (5, [.ref (a 3), .int (nI ((N_n N) + 1))])), ((a 3), .inl (cI, (16, .inl (upd (N_a N) (N_n N) x)))), ((a 4), .inr (5, [.ref (a 5), .int (nI ((N_n N) + 1))])), ((a 5), .inl (cI, (16, .inl (upd (N_b N) (N_n N) x2)))), ((a 6), .inr (5, [.ref (a 7), .int (nI (N_n N))])), ((a 7), .inl (cI, (16, .inl (N_l N)))), ((a 8), .inr (5, [.ref (a 9), .int (nI 10)])), ((a 9), .inl (cI, (10, .inl pb)))] : va_W)) := hD
  refine lv_pop hx hb dX2_join_23 rfl ?_
  refine lv_aload_n hx hb dX2_join_24 rfl (lv_at hl 1 rfl) ?_
  refine va_get (D := D) (ci := 2) (v := .ref (a 6)) (C := RX2) (T := TX2) (N := 4) hx hb hts hin2 hown hK.1 hP 0 rfl rfl 2 (by decide) (hts _ fl_X2_23) (fun _ h9 => h9) rfl dX2_join_25 ?_
  refine lv_iload_n hx hb dX2_join_28 rfl (lv_at hl 4 rfl) ?_
  refine mi_V2 (As := [.int x3]) (rest := []) ⟨hx, hb, hml, hown, hts⟩ (c_X5_push l D cI cZ (a 6) (a 7) 16 (N_n N) (N_l N) hN16 (by decide) x3) (cw_X2_40 hts rfl rfl ⟨Nat.le_of_ble_eq_true rfl, Nat.le_of_ble_eq_true rfl⟩) hK hP hD hS 9 rfl [5, 6] [0, 1, 2, 3, 4, 7, 8] (fun (_ : Unit) => wNet a cI ((N_n N + 1), (upd (N_a N) (N_n N) x), (upd (N_b N) (N_n N) x2), (upd (N_l N) (N_n N) x3)) pb) rfl (by decide) (fun u => rfl) [(a 6), (a 7)] rfl (fun u => rfl) ([((a 1), .inr (2, [.ref (a 2), .ref (a 4), .ref (a 6), .ref (a 8)])), ((a 2), .inr (5, [.ref (a 3), .int (nI ((N_n N) + 1))])), ((a 3), .inl (cI, (16, .inl (upd (N_a N) (N_n N) x)))), ((a 4), .inr (5, [.ref (a 5), .int (nI ((N_n N) + 1))])), ((a 5), .inl (cI, (16, .inl (upd (N_b N) (N_n N) x2)))), ((a 8), .inr (5, [.ref (a 9), .int (nI 10)])), ((a 9), .inl (cI, (10, .inl pb)))] : va_W) rfl (fun u => rfl) [(a 1), (a 2), (a 3), (a 4), (a 5), (a 6), (a 7), (a 8), (a 9)] rfl (fun u => rfl) (by decide) (by decide) (by decide) (ci := 5) rfl rfl rfl hl.1 rfl (Nat.le_of_ble_eq_true rfl) dX2_join_29 ⟨Nat.zero_le _, Nat.zero_le _⟩ (fun r u H locs hp hP hD hS => ?_)
  have hp : r = nI ((N_n N) + 1) := hp
  subst hp
  have hP : va_P D vwCl (wNet a cI ((N_n N + 1), (upd (N_a N) (N_n N) x), (upd (N_b N) (N_n N) x2), (upd (N_l N) (N_n N) x3)) pb) H := hP
  have hD : va_D _ (wNet a cI ((N_n N + 1), (upd (N_a N) (N_n N) x), (upd (N_b N) (N_n N) x2), (upd (N_l N) (N_n N) x3)) pb) := hD
  refine lv_pop hx hb dX2_join_32 rfl ?_
  refine lv_aload_n hx hb dX2_join_33 rfl (lv_at hl 1 rfl) ?_
  refine va_get (D := D) (ci := 2) (v := .ref (a 8)) (C := RX2) (T := TX2) (N := 4) hx hb hts hin2 hown hK.1 hP 0 rfl rfl 3 (by decide) (hts _ fl_X2_30) (fun _ h9 => h9) rfl dX2_join_34 ?_
  refine lv_iload_n hx hb dX2_join_37 rfl (lv_at hl 2 rfl) ?_
  refine lv_aload_n hx hb dX2_join_38 rfl (lv_at hl 1 rfl) ?_
  refine lv_iload_n hx hb dX2_join_39 rfl (lv_at hl 2 rfl) ?_
  refine ro_V (As := [.int x]) (rest := [.int x, .ref (a 8)]) ⟨hx, hb, hml, hown, hts⟩ (c_X2_pathsAt l D cI cZ a ((N_n N + 1), (upd (N_a N) (N_n N) x), (upd (N_b N) (N_n N) x2), (upd (N_l N) (N_n N) x3)) pb (show N_n N + 1 ≤ 16 by omega) x) (cw_X2_44 hts rfl rfl ⟨Nat.le_of_ble_eq_true rfl, Nat.le_of_ble_eq_true rfl⟩) hK hP (ci := 2) rfl rfl rfl hl.1 rfl (Nat.le_of_ble_eq_true rfl) dX2_join_40 ⟨Nat.zero_le _, Nat.zero_le _⟩ ?_
  refine lv_iload hx hb dX2_join_43 (lv_at hl 0 rfl) ?_
  refine ro_SN (As := [.int (nI (N_n N))]) (rest := [.int (zPb pb x), .int x, .ref (a 8)]) ⟨hx, hb, hml, hown, hts⟩ (c_X9_bitOf l D cI cZ  (nI (N_n N))) (cw_X2_47 hts rfl rfl hK ⟨Nat.le_of_ble_eq_true rfl, Nat.le_of_ble_eq_true rfl⟩) hK P_nil rfl hl.1 rfl (Nat.le_of_ble_eq_true rfl) dX2_join_45 ⟨Nat.zero_le _, Nat.zero_le _⟩ ?_
  refine lv_ior hx hb dX2_join_48 ?_
  refine mv_V2 (As := [.int x, .int ((zPb pb x) ||| (zbt (nI (N_n N))))]) (rest := []) ⟨hx, hb, hml, hown, hts⟩ (c_X5_put l D cI cZ (a 8) (a 9) 10 10 pb (by decide) (by decide) x ((zPb pb x) ||| (zbt (nI (N_n N))))) (cw_X2_50 hts rfl rfl ⟨Nat.le_of_ble_eq_true rfl, Nat.le_of_ble_eq_true rfl⟩) hK hP hD hS 9 rfl [7, 8] [0, 1, 2, 3, 4, 5, 6] (fun (_ : Unit) => wNet a cI ((N_n N + 1), (upd (N_a N) (N_n N) x), (upd (N_b N) (N_n N) x2), (upd (N_l N) (N_n N) x3)) (rp 10 pb x ((zPb pb x) ||| (zbt (nI (N_n N)))))) rfl (by decide) (fun u => rfl) [(a 8), (a 9)] rfl (fun u => rfl) ([((a 1), .inr (2, [.ref (a 2), .ref (a 4), .ref (a 6), .ref (a 8)])), ((a 2), .inr (5, [.ref (a 3), .int (nI ((N_n N) + 1))])), ((a 3), .inl (cI, (16, .inl (upd (N_a N) (N_n N) x)))), ((a 4), .inr (5, [.ref (a 5), .int (nI ((N_n N) + 1))])), ((a 5), .inl (cI, (16, .inl (upd (N_b N) (N_n N) x2)))), ((a 6), .inr (5, [.ref (a 7), .int (nI ((N_n N) + 1))])), ((a 7), .inl (cI, (16, .inl (upd (N_l N) (N_n N) x3))))] : va_W) rfl (fun u => rfl) [(a 1), (a 2), (a 3), (a 4), (a 5), (a 6), (a 7), (a 8), (a 9)] rfl (fun u => rfl) (by decide) (by decide) (by decide) (ci := 5) rfl rfl rfl hl.1 rfl (Nat.le_of_ble_eq_true rfl) dX2_join_49 ⟨Nat.zero_le _, Nat.zero_le _⟩ (fun u H locs hp hP hD hS => ?_)
  have hP : va_P D vwCl (wNet a cI ((N_n N + 1), (upd (N_a N) (N_n N) x), (upd (N_b N) (N_n N) x2), (upd (N_l N) (N_n N) x3)) (rp 10 pb x ((zPb pb x) ||| (zbt (nI (N_n N)))))) H := hP
  have hD : va_D _ (wNet a cI ((N_n N + 1), (upd (N_a N) (N_n N) x), (upd (N_b N) (N_n N) x2), (upd (N_l N) (N_n N) x3)) (rp 10 pb x ((zPb pb x) ||| (zbt (nI (N_n N)))))) := hD
  refine lv_aload_n hx hb dX2_join_52 rfl (lv_at hl 1 rfl) ?_
  refine va_get (D := D) (ci := 2) (v := .ref (a 8)) (C := RX2) (T := TX2) (N := 4) hx hb hts hin2 hown hK.1 hP 0 rfl rfl 3 (by decide) (hts _ fl_X2_30) (fun _ h9 => h9) rfl dX2_join_53 ?_
  refine lv_iload_n hx hb dX2_join_56 rfl (lv_at hl 3 rfl) ?_
  refine lv_aload_n hx hb dX2_join_57 rfl (lv_at hl 1 rfl) ?_
  refine lv_iload_n hx hb dX2_join_58 rfl (lv_at hl 3 rfl) ?_
  refine ro_V (As := [.int x2]) (rest := [.int x2, .ref (a 8)]) ⟨hx, hb, hml, hown, hts⟩ (c_X2_pathsAt l D cI cZ a ((N_n N + 1), (upd (N_a N) (N_n N) x), (upd (N_b N) (N_n N) x2), (upd (N_l N) (N_n N) x3)) (rp 10 pb x (zPb pb x ||| zbt (nI (N_n N)))) (show N_n N + 1 ≤ 16 by omega) x2) (cw_X2_44 hts rfl rfl ⟨Nat.le_of_ble_eq_true rfl, Nat.le_of_ble_eq_true rfl⟩) hK hP (ci := 2) rfl rfl rfl hl.1 rfl (Nat.le_of_ble_eq_true rfl) dX2_join_59 ⟨Nat.zero_le _, Nat.zero_le _⟩ ?_
  refine lv_iload hx hb dX2_join_62 (lv_at hl 0 rfl) ?_
  refine ro_SN (As := [.int (nI (N_n N))]) (rest := [.int (zPb (rp 10 pb x (zPb pb x ||| zbt (nI (N_n N)))) x2), .int x2, .ref (a 8)]) ⟨hx, hb, hml, hown, hts⟩ (c_X9_bitOf l D cI cZ  (nI (N_n N))) (cw_X2_47 hts rfl rfl hK ⟨Nat.le_of_ble_eq_true rfl, Nat.le_of_ble_eq_true rfl⟩) hK P_nil rfl hl.1 rfl (Nat.le_of_ble_eq_true rfl) dX2_join_64 ⟨Nat.zero_le _, Nat.zero_le _⟩ ?_
  refine lv_ior hx hb dX2_join_67 ?_
  refine mv_V2 (As := [.int x2, .int ((zPb (rp 10 pb x (zPb pb x ||| zbt (nI (N_n N)))) x2) ||| (zbt (nI (N_n N))))]) (rest := []) ⟨hx, hb, hml, hown, hts⟩ (c_X5_put l D cI cZ (a 8) (a 9) 10 10 (rp 10 pb x ((zPb pb x) ||| (zbt (nI (N_n N))))) (by decide) (by decide) x2 ((zPb (rp 10 pb x (zPb pb x ||| zbt (nI (N_n N)))) x2) ||| (zbt (nI (N_n N))))) (cw_X2_50 hts rfl rfl ⟨Nat.le_of_ble_eq_true rfl, Nat.le_of_ble_eq_true rfl⟩) hK hP hD hS 9 rfl [7, 8] [0, 1, 2, 3, 4, 5, 6] (fun (_ : Unit) => wNet a cI ((N_n N + 1), (upd (N_a N) (N_n N) x), (upd (N_b N) (N_n N) x2), (upd (N_l N) (N_n N) x3)) (rp 10 (rp 10 pb x ((zPb pb x) ||| (zbt (nI (N_n N))))) x2 ((zPb (rp 10 pb x (zPb pb x ||| zbt (nI (N_n N)))) x2) ||| (zbt (nI (N_n N)))))) rfl (by decide) (fun u => rfl) [(a 8), (a 9)] rfl (fun u => rfl) ([((a 1), .inr (2, [.ref (a 2), .ref (a 4), .ref (a 6), .ref (a 8)])), ((a 2), .inr (5, [.ref (a 3), .int (nI ((N_n N) + 1))])), ((a 3), .inl (cI, (16, .inl (upd (N_a N) (N_n N) x)))), ((a 4), .inr (5, [.ref (a 5), .int (nI ((N_n N) + 1))])), ((a 5), .inl (cI, (16, .inl (upd (N_b N) (N_n N) x2)))), ((a 6), .inr (5, [.ref (a 7), .int (nI ((N_n N) + 1))])), ((a 7), .inl (cI, (16, .inl (upd (N_l N) (N_n N) x3))))] : va_W) rfl (fun u => rfl) [(a 1), (a 2), (a 3), (a 4), (a 5), (a 6), (a 7), (a 8), (a 9)] rfl (fun u => rfl) (by decide) (by decide) (by decide) (ci := 5) rfl rfl rfl hl.1 rfl (Nat.le_of_ble_eq_true rfl) dX2_join_68 ⟨Nat.zero_le _, Nat.zero_le _⟩ (fun u H locs hp hP hD hS => ?_)
  have hP : va_P D vwCl (wNet a cI ((N_n N + 1), (upd (N_a N) (N_n N) x), (upd (N_b N) (N_n N) x2), (upd (N_l N) (N_n N) x3)) (rp 10 (rp 10 pb x ((zPb pb x) ||| (zbt (nI (N_n N))))) x2 ((zPb (rp 10 pb x (zPb pb x ||| zbt (nI (N_n N)))) x2) ||| (zbt (nI (N_n N)))))) H := hP
  have hD : va_D _ (wNet a cI ((N_n N + 1), (upd (N_a N) (N_n N) x), (upd (N_b N) (N_n N) x2), (upd (N_l N) (N_n N) x3)) (rp 10 (rp 10 pb x ((zPb pb x) ||| (zbt (nI (N_n N))))) x2 ((zPb (rp 10 pb x (zPb pb x ||| zbt (nI (N_n N)))) x2) ||| (zbt (nI (N_n N)))))) := hD
  refine lv_iload hx hb dX2_join_71 (lv_at hl 0 rfl) ?_
  exact mu_iret (v := (nI (N_n N))) hx hb hr hlocks (()) (rfl) (hP) hS dX2_join_73
