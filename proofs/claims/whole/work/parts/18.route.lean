def jMg (pb : Nat → Int32) (ro : TR) (x : Int32) : Bool := decide (nI ro.1 = 0 ∨ (¬ hasB ro.2.1 x ro.1 = true ∧ ¬ jJo pb (rg ro.1 ro.2.1 (nI ro.1 - 1)) x = -1))
def jHm (N : TN) (pb : Nat → Int32) (ro : TR) (x k : Int32) : Bool := decide (zPb pb (jOE N x k) = zbt k ∧ rg (N_n N) (N_l N) k ≤ ro.2.2)
def jWr (pb : Nat → Int32) (x c r : Int32) : Int32 := (zPb pb x &&& (zbt c ^^^ (-1))) &&& (zbt r ^^^ (-1))
def jMw (N : TN) (pb : Nat → Int32) (ro : TR) (x c r : Int32) : Bool := anyB (fun i => decide (¬ (jWr pb x c r &&& zbt (nI i)) = 0 ∧ ¬ jHm N pb ro x (nI i) = true)) (N_n N)
def jMr (pb : Nat → Int32) (ro : TR) (y : Int32) (k : Nat) : Int32 := jJo pb (ro.2.1 k) (rg ro.1 ro.2.1 (nI k + y))
def jMc (pb : Nat → Int32) (ro : TR) (y : Int32) (k : Nat) : Int32 := jJo pb (ro.2.1 k) (rg ro.1 ro.2.1 (nI k - y))
def jMk (S : TS) (sb : Nat → Int32) (q : TQ) (N : TN) (pb : Nat → Int32) (ro : TR) (y : Int32) : Nat → Int32
  | 0 => 0
  | k + 1 => if ¬ jMr pb ro y k = -1 ∧ jMw N pb ro (ro.2.1 k) (jMc pb ro y k) (jMr pb ro y k) = true ∧ ¬ jCh S sb q N pb (ro.2.1 k) (jMc pb ro y k) = jMr pb ro y k then jMk S sb q N pb ro y k ||| ((1 : Int32) <<< (ro.2.1 k &&& 31)) else jMk S sb q N pb ro y k
def jMn (S : TS) (sb : Nat → Int32) (q : TQ) (N : TN) (pb : Nat → Int32) (ro : TR) (y : Int32) : Int32 := jMk S sb q N pb ro (if y = 0 then 1 else -1) ro.1
set_option maxHeartbeats 4000000 in
set_option maxRecDepth 100000 in
theorem c_X4_placeCount (l : Launch) (D : va_G) (cI cZ : ClassId) (a : Nat → Nat) (ro : TR) (hr10 : ro.1 ≤ 10) : RO l D cI cZ yX4_placeCount wyX4_placeCount ({ frames := 1, cells := 0, slots := 0, locals := 20 } : Room) [.ref (a 33)] (wRt a cI ro) (nI ro.1) := by
  refine Met.ofW (cc := cX4_placeCount) (maxL := 1) (ret := (some .int)) (by decide) rfl ?_
  intro p e s m args below meth c s₁ B hml hv
  obtain ⟨rfl, hK, hP⟩ := hv
  have hx := B.exec
  have hb := B.bytes
  have hr := B.returns
  have hts0 := atoms_spec (ws := wyX4_placeCount) B.pre
  have hts : ∀ w ∈ big, w.before _ s = true := fun w h => hts0 w (List.mem_cons_of_mem _ h)
  have hown : s.vm.findClass RX4 = some m.cls := findClass_of_methodNamed B.named
  have hlocks := B.notSynchronized
  have hl := lv_entry ([.ref (a 33)]) (n := 1) (Nat.le_of_ble_eq_true rfl)
  rw [lg_entry_eq]
  generalize (lg_sl ([.ref (a 33)]) ++ List.replicate (1 - (lg_sl ([.ref (a 33)])).length) Slot.unset).toArray = ls at hl ⊢
  have hl : lv_has ls 1 [(0, .ref (a 33))] := hl
  refine lv_aload_n hx hb dX4_placeCount_0 rfl (lv_at hl 0 rfl) ?_
  refine va_get (D := D) (ci := 4) (v := .ref (a 34)) (C := RX4) (T := TX4) (N := 4) hx hb hts hin4 hown hK.1 hP 0 rfl rfl 2 (by decide) (hts _ fl_X4_16) (fun _ h9 => h9) rfl dX4_placeCount_1 ?_
  refine ro_V (As := []) (rest := []) ⟨hx, hb, hml, hown, hts⟩ (c_X5_size l D cI cZ (a 34) (a 35) 10 (ro.1) (ro.2.1) hr10 (by decide)) (cw_X4_32 hts rfl rfl ⟨Nat.le_of_ble_eq_true rfl, Nat.le_of_ble_eq_true rfl⟩) hK (hP.sub [1, 2] rfl) (ci := 5) rfl rfl rfl hl.1 rfl (Nat.le_of_ble_eq_true rfl) dX4_placeCount_4 ⟨Nat.zero_le _, Nat.zero_le _⟩ ?_
  exact ro_iret hx hb hr hlocks (rfl) dX4_placeCount_7

set_option maxHeartbeats 4000000 in
set_option maxRecDepth 100000 in
theorem c_X4_passes (l : Launch) (D : va_G) (cI cZ : ClassId) (a : Nat → Nat) (ro : TR) (hr10 : ro.1 ≤ 10) (x : Int32) : RO l D cI cZ yX4_passes wyX4_passes ({ frames := 2, cells := 0, slots := 0, locals := 43 } : Room) [.ref (a 33), .int x] (wRt a cI ro) (zb (hasB ro.2.1 x ro.1 = true)) := by
  refine Met.ofW (cc := cX4_passes) (maxL := 2) (ret := (some .boolean)) (by decide) rfl ?_
  intro p e s m args below meth c s₁ B hml hv
  obtain ⟨rfl, hK, hP⟩ := hv
  have hx := B.exec
  have hb := B.bytes
  have hr := B.returns
  have hts0 := atoms_spec (ws := wyX4_passes) B.pre
  have hts : ∀ w ∈ big, w.before _ s = true := fun w h => hts0 w (List.mem_cons_of_mem _ h)
  have hown : s.vm.findClass RX4 = some m.cls := findClass_of_methodNamed B.named
  have hlocks := B.notSynchronized
  have hl := lv_entry ([.ref (a 33), .int x]) (n := 2) (Nat.le_of_ble_eq_true rfl)
  rw [lg_entry_eq]
  generalize (lg_sl ([.ref (a 33), .int x]) ++ List.replicate (2 - (lg_sl ([.ref (a 33), .int x])).length) Slot.unset).toArray = ls at hl ⊢
  have hl : lv_has ls 2 [(0, .ref (a 33)), (1, .int x)] := hl
  refine lv_aload_n hx hb dX4_passes_0 rfl (lv_at hl 0 rfl) ?_
  refine va_get (D := D) (ci := 4) (v := .ref (a 34)) (C := RX4) (T := TX4) (N := 4) hx hb hts hin4 hown hK.1 hP 0 rfl rfl 2 (by decide) (hts _ fl_X4_16) (fun _ h9 => h9) rfl dX4_passes_1 ?_
  refine lv_iload_n hx hb dX4_passes_4 rfl (lv_at hl 1 rfl) ?_
  refine ro_V (As := [.int x]) (rest := []) ⟨hx, hb, hml, hown, hts⟩ (c_X5_has l D cI cZ (a 34) (a 35) 10 (ro.1) (ro.2.1) hr10 (by decide) x) (cw_X4_36 hts rfl rfl ⟨Nat.le_of_ble_eq_true rfl, Nat.le_of_ble_eq_true rfl⟩) hK (hP.sub [1, 2] rfl) (ci := 5) rfl rfl rfl hl.1 rfl (Nat.le_of_ble_eq_true rfl) dX4_passes_5 ⟨Nat.zero_le _, Nat.zero_le _⟩ ?_
  exact ro_zret hx hb hr hlocks (nar_zb _) (rfl) dX4_passes_8

set_option maxHeartbeats 4000000 in
set_option maxRecDepth 100000 in
theorem c_X4_changeLeeway (l : Launch) (D : va_G) (cI cZ : ClassId) (a : Nat → Nat) (ro : TR) (hr10 : ro.1 ≤ 10) (v : Int32) : MI l D cI cZ yX4_changeLeeway wyX4_changeLeeway ({ frames := 0, cells := 0, slots := 0, locals := 0 } : Room) [.ref (a 33), .int v] (wRt a cI ro) (fun r _ => r = ro.2.2) (fun (_ : Unit) => wRt a cI (ro.1, ro.2.1, v)) := by
  refine Met.ofW (cc := cX4_changeLeeway) (maxL := 3) (ret := (some .int)) (by decide) rfl ?_
  intro p e s m args below meth c s₁ B hml hv
  obtain ⟨rfl, hK, hP, hD0⟩ := hv
  have hx := B.exec
  have hb := B.bytes
  have hr := B.returns
  have hts0 := atoms_spec (ws := wyX4_changeLeeway) B.pre
  have hts : ∀ w ∈ big, w.before _ s = true := fun w h => hts0 w (List.mem_cons_of_mem _ h)
  have hown : s.vm.findClass RX4 = some m.cls := findClass_of_methodNamed B.named
  have hlocks := B.notSynchronized
  have hD := D_inW hD0
  have hS : va_S (inW (wRt a cI ro)) s.heap s.heap [] := va_S.rf
  have hl := lv_entry ([.ref (a 33), .int v]) (n := 3) (Nat.le_of_ble_eq_true rfl)
  rw [lg_entry_eq]
  generalize (lg_sl ([.ref (a 33), .int v]) ++ List.replicate (3 - (lg_sl ([.ref (a 33), .int v])).length) Slot.unset).toArray = ls at hl ⊢
  have hl : lv_has ls 3 [(0, .ref (a 33)), (1, .int v)] := hl
  refine lv_aload_n hx hb dX4_changeLeeway_0 rfl (lv_at hl 0 rfl) ?_
  refine va_get (D := D) (ci := 4) (v := .int ro.2.2) (C := RX4) (T := TX4) (N := 4) hx hb hts hin4 hown hK.1 hP 0 rfl rfl 3 (by decide) (hts _ fl_X4_20) (fun _ h9 => h9) rfl dX4_changeLeeway_1 ?_
  refine lv_istore_n (lv' := [(2, .int ro.2.2), (0, .ref (a 33)), (1, .int v)]) hx hb dX4_changeLeeway_4 rfl hl (by decide) rfl (fun ls hl => ?_)
  refine lv_aload_n hx hb dX4_changeLeeway_5 rfl (lv_at hl 1 rfl) ?_
  refine lv_iload_n hx hb dX4_changeLeeway_6 rfl (lv_at hl 2 rfl) ?_
  refine va_put (D := D) (ci := 4) (v := .int v) (ty := .int) (C := RX4) (T := TX4) (N := 4) hx hb hts hin4 tyX4 tyX4_ok nmX4 hown hK.1 hP hD hS 0 rfl rfl 3 (by decide) (hts _ fl_X4_20) (fun _ h9 => h9) rfl (by decide +kernel) rfl rfl (Nat.le_of_ble_eq_true rfl) dX4_changeLeeway_7 (fun H locs hP hD hS => ?_)
  have hP : va_P D vwCl (wRt a cI ((ro.1), (ro.2.1), v)) H := hP
  have hD : va_D _ (wRt a cI ((ro.1), (ro.2.1), v)) := hD
  refine lv_iload_n hx hb dX4_changeLeeway_10 rfl (lv_at hl 0 rfl) ?_
  exact mu_iret (v := ro.2.2) hx hb hr hlocks (()) (rfl) (hP) hS dX4_changeLeeway_11

set_option maxHeartbeats 4000000 in
set_option maxRecDepth 100000 in
theorem c_X4_goOnTo (l : Launch) (D : va_G) (cI cZ : ClassId) (a : Nat → Nat) (ro : TR) (hr10 : ro.1 < 10) (x : Int32) : MI l D cI cZ yX4_goOnTo wyX4_goOnTo ({ frames := 1, cells := 0, slots := 0, locals := 21 } : Room) [.ref (a 33), .int x] (wRt a cI ro) (fun r _ => r = nI (ro.1 + 1)) (fun (_ : Unit) => wRt a cI (ro.1 + 1, upd ro.2.1 ro.1 x, ro.2.2)) := by
  refine Met.ofW (cc := cX4_goOnTo) (maxL := 2) (ret := (some .int)) (by decide) rfl ?_
  intro p e s m args below meth c s₁ B hml hv
  obtain ⟨rfl, hK, hP, hD0⟩ := hv
  have hx := B.exec
  have hb := B.bytes
  have hr := B.returns
  have hts0 := atoms_spec (ws := wyX4_goOnTo) B.pre
  have hts : ∀ w ∈ big, w.before _ s = true := fun w h => hts0 w (List.mem_cons_of_mem _ h)
  have hown : s.vm.findClass RX4 = some m.cls := findClass_of_methodNamed B.named
  have hlocks := B.notSynchronized
  have hD := D_inW hD0
  have hS : va_S (inW (wRt a cI ro)) s.heap s.heap [] := va_S.rf
  have hl := lv_entry ([.ref (a 33), .int x]) (n := 2) (Nat.le_of_ble_eq_true rfl)
  rw [lg_entry_eq]
  generalize (lg_sl ([.ref (a 33), .int x]) ++ List.replicate (2 - (lg_sl ([.ref (a 33), .int x])).length) Slot.unset).toArray = ls at hl ⊢
  have hl : lv_has ls 2 [(0, .ref (a 33)), (1, .int x)] := hl
  refine lv_aload_n hx hb dX4_goOnTo_0 rfl (lv_at hl 0 rfl) ?_
  refine va_get (D := D) (ci := 4) (v := .ref (a 34)) (C := RX4) (T := TX4) (N := 4) hx hb hts hin4 hown hK.1 hP 0 rfl rfl 2 (by decide) (hts _ fl_X4_16) (fun _ h9 => h9) rfl dX4_goOnTo_1 ?_
  refine lv_iload_n hx hb dX4_goOnTo_4 rfl (lv_at hl 1 rfl) ?_
  refine mi_V2 (As := [.int x]) (rest := []) ⟨hx, hb, hml, hown, hts⟩ (c_X5_push l D cI cZ (a 34) (a 35) 10 (ro.1) (ro.2.1) hr10 (by decide) x) (cw_X4_56 hts rfl rfl ⟨Nat.le_of_ble_eq_true rfl, Nat.le_of_ble_eq_true rfl⟩) hK hP hD hS 3 rfl [1, 2] [0] (fun (_ : Unit) => ([((a 33), .inr (4, [.ref (a 1), .ref (a 25), .ref (a 34), .int ro.2.2])), ((a 34), .inr (5, [.ref (a 35), .int (nI ((ro.1) + 1))])), ((a 35), .inl (cI, (10, .inl (upd (ro.2.1) (ro.1) x))))] : va_W)) rfl (by decide) (fun u => rfl) [(a 34), (a 35)] rfl (fun u => rfl) ([((a 33), .inr (4, [.ref (a 1), .ref (a 25), .ref (a 34), .int ro.2.2]))] : va_W) rfl (fun u => rfl) [(a 33), (a 34), (a 35)] rfl (fun u => rfl) (by decide) (by decide) (by decide) (ci := 5) rfl rfl rfl hl.1 rfl (Nat.le_of_ble_eq_true rfl) dX4_goOnTo_5 ⟨Nat.zero_le _, Nat.zero_le _⟩ (fun r u H locs hp hP hD hS => ?_)
  have hp : r = nI ((ro.1) + 1) := hp
  subst hp
  have hP : va_P D vwCl (([((a 33), .inr (4, [.ref (a 1), .ref (a 25), .ref (a 34), .int ro.2.2])), ((a 34), .inr (5, [.ref (a 35), .int (nI ((ro.1) + 1))])), ((a 35), .inl (cI, (10, .inl (upd (ro.2.1) (ro.1) x))))] : va_W)) H := hP
  have hD : va_D _ (([((a 33), .inr (4, [.ref (a 1), .ref (a 25), .ref (a 34), .int ro.2.2])), ((a 34), .inr (5, [.ref (a 35), .int (nI ((ro.1) + 1))])), ((a 35), .inl (cI, (10, .inl (upd (ro.2.1) (ro.1) x))))] : va_W)) := hD
  exact mu_iret (v := (nI ((ro.1) + 1))) hx hb hr hlocks (()) (rfl) (hP) hS dX4_goOnTo_8

set_option maxHeartbeats 4000000 in
set_option maxRecDepth 100000 in
theorem c_X4_dropAll (l : Launch) (D : va_G) (cI cZ : ClassId) (a : Nat → Nat) (ro : TR) (hr10 : ro.1 ≤ 10) : MI l D cI cZ yX4_dropAll wyX4_dropAll ({ frames := 1, cells := 0, slots := 0, locals := 21 } : Room) [.ref (a 33)] (wRt a cI ro) (fun r _ => r = nI ro.1) (fun (_ : Unit) => wRt a cI (0, ro.2.1, ro.2.2)) := by
  refine Met.ofW (cc := cX4_dropAll) (maxL := 1) (ret := (some .int)) (by decide) rfl ?_
  intro p e s m args below meth c s₁ B hml hv
  obtain ⟨rfl, hK, hP, hD0⟩ := hv
  have hx := B.exec
  have hb := B.bytes
  have hr := B.returns
  have hts0 := atoms_spec (ws := wyX4_dropAll) B.pre
  have hts : ∀ w ∈ big, w.before _ s = true := fun w h => hts0 w (List.mem_cons_of_mem _ h)
  have hown : s.vm.findClass RX4 = some m.cls := findClass_of_methodNamed B.named
  have hlocks := B.notSynchronized
  have hD := D_inW hD0
  have hS : va_S (inW (wRt a cI ro)) s.heap s.heap [] := va_S.rf
  have hl := lv_entry ([.ref (a 33)]) (n := 1) (Nat.le_of_ble_eq_true rfl)
  rw [lg_entry_eq]
  generalize (lg_sl ([.ref (a 33)]) ++ List.replicate (1 - (lg_sl ([.ref (a 33)])).length) Slot.unset).toArray = ls at hl ⊢
  have hl : lv_has ls 1 [(0, .ref (a 33))] := hl
  refine lv_aload_n hx hb dX4_dropAll_0 rfl (lv_at hl 0 rfl) ?_
  refine va_get (D := D) (ci := 4) (v := .ref (a 34)) (C := RX4) (T := TX4) (N := 4) hx hb hts hin4 hown hK.1 hP 0 rfl rfl 2 (by decide) (hts _ fl_X4_16) (fun _ h9 => h9) rfl dX4_dropAll_1 ?_
  refine mi_V2 (As := []) (rest := []) ⟨hx, hb, hml, hown, hts⟩ (c_X5_clear l D cI cZ (a 34) (a 35) 10 (ro.1) (ro.2.1)) (cw_X4_59 hts rfl rfl ⟨Nat.le_of_ble_eq_true rfl, Nat.le_of_ble_eq_true rfl⟩) hK hP hD hS 3 rfl [1, 2] [0] (fun (_ : Unit) => ([((a 33), .inr (4, [.ref (a 1), .ref (a 25), .ref (a 34), .int ro.2.2])), ((a 34), .inr (5, [.ref (a 35), .int (nI 0)])), ((a 35), .inl (cI, (10, .inl (ro.2.1))))] : va_W)) rfl (by decide) (fun u => rfl) [(a 34), (a 35)] rfl (fun u => rfl) ([((a 33), .inr (4, [.ref (a 1), .ref (a 25), .ref (a 34), .int ro.2.2]))] : va_W) rfl (fun u => rfl) [(a 33), (a 34), (a 35)] rfl (fun u => rfl) (by decide) (by decide) (by decide) (ci := 5) rfl rfl rfl hl.1 rfl (Nat.le_of_ble_eq_true rfl) dX4_dropAll_4 ⟨Nat.zero_le _, Nat.zero_le _⟩ (fun r u H locs hp hP hD hS => ?_)
  have hp : r = nI (ro.1) := hp
  subst hp
  have hP : va_P D vwCl (([((a 33), .inr (4, [.ref (a 1), .ref (a 25), .ref (a 34), .int ro.2.2])), ((a 34), .inr (5, [.ref (a 35), .int (nI 0)])), ((a 35), .inl (cI, (10, .inl (ro.2.1))))] : va_W)) H := hP
  have hD : va_D _ (([((a 33), .inr (4, [.ref (a 1), .ref (a 25), .ref (a 34), .int ro.2.2])), ((a 34), .inr (5, [.ref (a 35), .int (nI 0)])), ((a 35), .inl (cI, (10, .inl (ro.2.1))))] : va_W)) := hD
  exact mu_iret (v := (nI (ro.1))) hx hb hr hlocks (()) (rfl) (hP) hS dX4_dropAll_7

set_option maxHeartbeats 4000000 in
set_option maxRecDepth 100000 in
theorem c_X4_mayGoOnTo (l : Launch) (D : va_G) (cI cZ : ClassId) (a : Nat → Nat) (ro : TR) (hr10 : ro.1 ≤ 10) (N : TN) (pb : Nat → Int32) (hN16 : N_n N ≤ 16) (x : Int32) : RO l D cI cZ yX4_mayGoOnTo wyX4_mayGoOnTo ({ frames := 4, cells := 0, slots := 0, locals := 86 } : Room) [.ref (a 33), .int x] (wRt a cI ro ++ wNet a cI N pb) (zb (jMg pb ro x = true)) := by
  refine Met.ofW (cc := cX4_mayGoOnTo) (maxL := 2) (ret := (some .boolean)) (by decide) rfl ?_
  intro p e s m args below meth c s₁ B hml hv
  obtain ⟨rfl, hK, hP⟩ := hv
  have hx := B.exec
  have hb := B.bytes
  have hr := B.returns
  have hts0 := atoms_spec (ws := wyX4_mayGoOnTo) B.pre
  have hts : ∀ w ∈ big, w.before _ s = true := fun w h => hts0 w (List.mem_cons_of_mem _ h)
  have hown : s.vm.findClass RX4 = some m.cls := findClass_of_methodNamed B.named
  have hlocks := B.notSynchronized
  have hl := lv_entry ([.ref (a 33), .int x]) (n := 2) (Nat.le_of_ble_eq_true rfl)
  rw [lg_entry_eq]
  generalize (lg_sl ([.ref (a 33), .int x]) ++ List.replicate (2 - (lg_sl ([.ref (a 33), .int x])).length) Slot.unset).toArray = ls at hl ⊢
  have hl : lv_has ls 2 [(0, .ref (a 33)), (1, .int x)] := hl
  refine lv_aload_n hx hb dX4_mayGoOnTo_0 rfl (lv_at hl 0 rfl) ?_
  refine ro_V (As := []) (rest := []) ⟨hx, hb, hml, hown, hts⟩ (c_X4_placeCount l D cI cZ a ro hr10) (cw_X4_40 hts rfl rfl ⟨Nat.le_of_ble_eq_true rfl, Nat.le_of_ble_eq_true rfl⟩) hK (hP.sub [0, 1, 2] rfl) (ci := 4) rfl rfl rfl hl.1 rfl (Nat.le_of_ble_eq_true rfl) dX4_mayGoOnTo_1 ⟨Nat.zero_le _, Nat.zero_le _⟩ ?_
  refine lv_if_eq (tgt := 40) hx hb dX4_mayGoOnTo_4 (by decide) (fun c_1 => ?_) (fun c_1 => ?_)
  · skip
    refine lv_iconst (v := 1) hx hb dX4_mayGoOnTo_40 (by decide) ?_
    refine lv_goto (tgt := 45) hx hb dX4_mayGoOnTo_41 (by decide) ?_
    exact ro_zret hx hb hr hlocks (nar_zb _) (by unfold jMg; simp only [decide_eq_true_eq]; first | exact (zb_t (by simp [c_1])).symm | exact (zb_f (by simp [c_1])).symm) dX4_mayGoOnTo_45
  · skip
    refine lv_aload_n hx hb dX4_mayGoOnTo_7 rfl (lv_at hl 0 rfl) ?_
    refine lv_iload_n hx hb dX4_mayGoOnTo_8 rfl (lv_at hl 1 rfl) ?_
    refine ro_V (As := [.int x]) (rest := []) ⟨hx, hb, hml, hown, hts⟩ (c_X4_passes l D cI cZ a ro hr10 x) (cw_X4_43 hts rfl rfl ⟨Nat.le_of_ble_eq_true rfl, Nat.le_of_ble_eq_true rfl⟩) hK (hP.sub [0, 1, 2] rfl) (ci := 4) rfl rfl rfl hl.1 rfl (Nat.le_of_ble_eq_true rfl) dX4_mayGoOnTo_9 ⟨Nat.zero_le _, Nat.zero_le _⟩ ?_
    refine lv_if_ne (tgt := 44) hx hb dX4_mayGoOnTo_12 (by decide) (fun c_2 => ?_) (fun c_2 => ?_)
    · skip
      have c_2 := zb_ne0 c_2
      refine lv_iconst (v := 0) hx hb dX4_mayGoOnTo_44 (by decide) ?_
      exact ro_zret hx hb hr hlocks (nar_zb _) (by unfold jMg; simp only [decide_eq_true_eq]; first | exact (zb_t (by simp [c_1, c_2])).symm | exact (zb_f (by simp [c_1, c_2])).symm) dX4_mayGoOnTo_45
    · skip
      have c_2 := zb_eq0 c_2
      refine lv_aload_n hx hb dX4_mayGoOnTo_15 rfl (lv_at hl 0 rfl) ?_
      refine va_get (D := D) (ci := 4) (v := .ref (a 1)) (C := RX4) (T := TX4) (N := 4) hx hb hts hin4 hown hK.1 hP 0 rfl rfl 0 (by decide) (hts _ fl_X4_24) (fun _ h9 => h9) rfl dX4_mayGoOnTo_16 ?_
      refine lv_aload_n hx hb dX4_mayGoOnTo_19 rfl (lv_at hl 0 rfl) ?_
      refine va_get (D := D) (ci := 4) (v := .ref (a 34)) (C := RX4) (T := TX4) (N := 4) hx hb hts hin4 hown hK.1 hP 0 rfl rfl 2 (by decide) (hts _ fl_X4_16) (fun _ h9 => h9) rfl dX4_mayGoOnTo_20 ?_
      refine lv_aload_n hx hb dX4_mayGoOnTo_23 rfl (lv_at hl 0 rfl) ?_
      refine ro_V (As := []) (rest := [.ref (a 34), .ref (a 1)]) ⟨hx, hb, hml, hown, hts⟩ (c_X4_placeCount l D cI cZ a ro hr10) (cw_X4_40 hts rfl rfl ⟨Nat.le_of_ble_eq_true rfl, Nat.le_of_ble_eq_true rfl⟩) hK (hP.sub [0, 1, 2] rfl) (ci := 4) rfl rfl rfl hl.1 rfl (Nat.le_of_ble_eq_true rfl) dX4_mayGoOnTo_24 ⟨Nat.zero_le _, Nat.zero_le _⟩ ?_
      refine lv_iconst (v := 1) hx hb dX4_mayGoOnTo_27 (by decide) ?_
      refine lv_isub hx hb dX4_mayGoOnTo_28 ?_
      refine ro_V (As := [.int ((nI ro.1) - 1)]) (rest := [.ref (a 1)]) ⟨hx, hb, hml, hown, hts⟩ (c_X5_get l D cI cZ (a 34) (a 35) 10 (ro.1) (ro.2.1) hr10 (by decide) ((nI ro.1) - 1)) (cw_X4_46 hts rfl rfl ⟨Nat.le_of_ble_eq_true rfl, Nat.le_of_ble_eq_true rfl⟩) hK (hP.sub [1, 2] rfl) (ci := 5) rfl rfl rfl hl.1 rfl (Nat.le_of_ble_eq_true rfl) dX4_mayGoOnTo_29 ⟨Nat.zero_le _, Nat.zero_le _⟩ ?_
      refine lv_iload_n hx hb dX4_mayGoOnTo_32 rfl (lv_at hl 1 rfl) ?_
      refine ro_V (As := [.int (rg (ro.1) (ro.2.1) ((nI ro.1) - 1)), .int x]) (rest := []) ⟨hx, hb, hml, hown, hts⟩ (c_X2_joining l D cI cZ a N pb hN16 (rg (ro.1) (ro.2.1) ((nI ro.1) - 1)) x) (cw_X4_50 hts rfl rfl ⟨Nat.le_of_ble_eq_true rfl, Nat.le_of_ble_eq_true rfl⟩) hK (hP.sub [3, 4, 5, 6, 7, 8, 9, 10, 11] rfl) (ci := 2) rfl rfl rfl hl.1 rfl (Nat.le_of_ble_eq_true rfl) dX4_mayGoOnTo_33 ⟨Nat.zero_le _, Nat.zero_le _⟩ ?_
      refine lv_iconst (v := (-1)) hx hb dX4_mayGoOnTo_36 (by decide) ?_
      refine lv_icmp_eq (tgt := 44) hx hb dX4_mayGoOnTo_37 (by decide) (fun c_3 => ?_) (fun c_3 => ?_)
      · skip
        refine lv_iconst (v := 0) hx hb dX4_mayGoOnTo_44 (by decide) ?_
        exact ro_zret hx hb hr hlocks (nar_zb _) (by unfold jMg; simp only [decide_eq_true_eq]; first | exact (zb_t (by simp [c_1, c_2, c_3])).symm | exact (zb_f (by simp [c_1, c_2, c_3])).symm) dX4_mayGoOnTo_45
      · skip
        refine lv_iconst (v := 1) hx hb dX4_mayGoOnTo_40 (by decide) ?_
        refine lv_goto (tgt := 45) hx hb dX4_mayGoOnTo_41 (by decide) ?_
        exact ro_zret hx hb hr hlocks (nar_zb _) (by unfold jMg; simp only [decide_eq_true_eq]; first | exact (zb_t (by simp [c_1, c_2, c_3])).symm | exact (zb_f (by simp [c_1, c_2, c_3])).symm) dX4_mayGoOnTo_45

set_option maxHeartbeats 4000000 in
set_option maxRecDepth 100000 in
theorem c_X4_isHarmless (l : Launch) (D : va_G) (cI cZ : ClassId) (a : Nat → Nat) (ro : TR) (hr10 : ro.1 ≤ 10) (N : TN) (pb : Nat → Int32) (hN16 : N_n N ≤ 16) (x k : Int32) : RO l D cI cZ yX4_isHarmless wyX4_isHarmless ({ frames := 3, cells := 0, slots := 0, locals := 65 } : Room) [.ref (a 33), .int x, .int k] (wRt a cI ro ++ wNet a cI N pb) (zb (jHm N pb ro x k = true)) := by
  refine Met.ofW (cc := cX4_isHarmless) (maxL := 4) (ret := (some .boolean)) (by decide) rfl ?_
  intro p e s m args below meth c s₁ B hml hv
  obtain ⟨rfl, hK, hP⟩ := hv
  have hx := B.exec
  have hb := B.bytes
  have hr := B.returns
  have hts0 := atoms_spec (ws := wyX4_isHarmless) B.pre
  have hts : ∀ w ∈ big, w.before _ s = true := fun w h => hts0 w (List.mem_cons_of_mem _ h)
  have hown : s.vm.findClass RX4 = some m.cls := findClass_of_methodNamed B.named
  have hlocks := B.notSynchronized
  have hl := lv_entry ([.ref (a 33), .int x, .int k]) (n := 4) (Nat.le_of_ble_eq_true rfl)
  rw [lg_entry_eq]
  generalize (lg_sl ([.ref (a 33), .int x, .int k]) ++ List.replicate (4 - (lg_sl ([.ref (a 33), .int x, .int k])).length) Slot.unset).toArray = ls at hl ⊢
  have hl : lv_has ls 4 [(0, .ref (a 33)), (1, .int x), (2, .int k)] := hl
  refine w_join (α := Int32) (fun a9 => a9 = zb (zPb pb (jOE N x k) = zbt k)) (fun a9 => [(0, .ref (a 33)), (1, .int x), (2, .int k), (3, .int a9)]) (fun a9 => []) 29 4 (fun hJ_29 => ?_) ?_
  · skip
    refine lv_aload_n hx hb dX4_isHarmless_0 rfl (lv_at hl 0 rfl) ?_
    refine va_get (D := D) (ci := 4) (v := .ref (a 1)) (C := RX4) (T := TX4) (N := 4) hx hb hts hin4 hown hK.1 hP 0 rfl rfl 0 (by decide) (hts _ fl_X4_24) (fun _ h9 => h9) rfl dX4_isHarmless_1 ?_
    refine lv_aload_n hx hb dX4_isHarmless_4 rfl (lv_at hl 0 rfl) ?_
    refine va_get (D := D) (ci := 4) (v := .ref (a 1)) (C := RX4) (T := TX4) (N := 4) hx hb hts hin4 hown hK.1 hP 0 rfl rfl 0 (by decide) (hts _ fl_X4_24) (fun _ h9 => h9) rfl dX4_isHarmless_5 ?_
    refine lv_iload_n hx hb dX4_isHarmless_8 rfl (lv_at hl 1 rfl) ?_
    refine lv_iload_n hx hb dX4_isHarmless_9 rfl (lv_at hl 2 rfl) ?_
    refine ro_V (As := [.int x, .int k]) (rest := [.ref (a 1)]) ⟨hx, hb, hml, hown, hts⟩ (c_X2_otherEnd l D cI cZ a N pb hN16 x k) (cw_X4_84 hts rfl rfl ⟨Nat.le_of_ble_eq_true rfl, Nat.le_of_ble_eq_true rfl⟩) hK (hP.sub [3, 4, 5, 6, 7, 8, 9, 10, 11] rfl) (ci := 2) rfl rfl rfl hl.1 rfl (Nat.le_of_ble_eq_true rfl) dX4_isHarmless_10 ⟨Nat.zero_le _, Nat.zero_le _⟩ ?_
    refine ro_V (As := [.int (jOE N x k)]) (rest := []) ⟨hx, hb, hml, hown, hts⟩ (c_X2_pathsAt l D cI cZ a N pb hN16 (jOE N x k)) (cw_X4_71 hts rfl rfl ⟨Nat.le_of_ble_eq_true rfl, Nat.le_of_ble_eq_true rfl⟩) hK (hP.sub [3, 4, 5, 6, 7, 8, 9, 10, 11] rfl) (ci := 2) rfl rfl rfl hl.1 rfl (Nat.le_of_ble_eq_true rfl) dX4_isHarmless_13 ⟨Nat.zero_le _, Nat.zero_le _⟩ ?_
    refine lv_iload_n hx hb dX4_isHarmless_16 rfl (lv_at hl 2 rfl) ?_
    refine ro_SN (As := [.int k]) (rest := [.int (zPb pb (jOE N x k))]) ⟨hx, hb, hml, hown, hts⟩ (c_X9_bitOf l D cI cZ  k) (cw_X4_74 hts rfl rfl hK ⟨Nat.le_of_ble_eq_true rfl, Nat.le_of_ble_eq_true rfl⟩) hK P_nil rfl hl.1 rfl (Nat.le_of_ble_eq_true rfl) dX4_isHarmless_17 ⟨Nat.zero_le _, Nat.zero_le _⟩ ?_
    refine lv_icmp_ne (tgt := 27) hx hb dX4_isHarmless_20 (by decide) (fun c_1 => ?_) (fun c_1 => ?_)
    · skip
      refine lv_iconst (v := 0) hx hb dX4_isHarmless_27 (by decide) ?_
      refine lv_istore_n (lv' := [(3, .int 0), (0, .ref (a 33)), (1, .int x), (2, .int k)]) hx hb dX4_isHarmless_28 rfl hl (by decide) rfl (fun ls hl => ?_)
      exact hJ_29 0 ls (show 0 = zb (zPb pb (jOE N x k) = zbt k) from (zb_f c_1).symm) (show lv_has ls 4 [(0, .ref (a 33)), (1, .int x), (2, .int k), (3, .int 0)] from lv_sub hl [1, 2, 3, 0] rfl)
    · skip
      refine lv_iconst (v := 1) hx hb dX4_isHarmless_23 (by decide) ?_
      refine lv_goto (tgt := 28) hx hb dX4_isHarmless_24 (by decide) ?_
      refine lv_istore_n (lv' := [(3, .int 1), (0, .ref (a 33)), (1, .int x), (2, .int k)]) hx hb dX4_isHarmless_28 rfl hl (by decide) rfl (fun ls hl => ?_)
      exact hJ_29 1 ls (show 1 = zb (zPb pb (jOE N x k) = zbt k) from (zb_t c_1).symm) (show lv_has ls 4 [(0, .ref (a 33)), (1, .int x), (2, .int k), (3, .int 1)] from lv_sub hl [1, 2, 3, 0] rfl)
  · skip
    intro a9 ls hI hl
    obtain ⟨y, rfl⟩ : ∃ z, z = a9 := ⟨a9, rfl⟩
    have hI : y = zb (zPb pb (jOE N x k) = zbt k) := hI
    subst hI
    have hl : lv_has ls 4 [(0, .ref (a 33)), (1, .int x), (2, .int k), (3, .int (zb (zPb pb (jOE N x k) = zbt k)))] := hl
    refine lv_iload_n hx hb dX4_isHarmless_29 rfl (lv_at hl 3 rfl) ?_
    refine lv_if_eq (tgt := 52) hx hb dX4_isHarmless_30 (by decide) (fun c_2 => ?_) (fun c_2 => ?_)
    · skip
      have c_2 := zb_eq0 c_2
      refine lv_iconst (v := 0) hx hb dX4_isHarmless_52 (by decide) ?_
      exact ro_zret hx hb hr hlocks (nar_zb _) (by unfold jHm; simp only [decide_eq_true_eq]; first | exact (zb_t ⟨c_2, Int32.not_lt.mp c_2⟩).symm | exact (zb_f (fun z => absurd z.2 (Int32.not_le.mpr c_2))).symm | exact (zb_f (fun z => c_2 z.1)).symm) dX4_isHarmless_53
    · skip
      have c_2 := zb_ne0 c_2
      refine lv_aload_n hx hb dX4_isHarmless_33 rfl (lv_at hl 0 rfl) ?_
      refine va_get (D := D) (ci := 4) (v := .ref (a 1)) (C := RX4) (T := TX4) (N := 4) hx hb hts hin4 hown hK.1 hP 0 rfl rfl 0 (by decide) (hts _ fl_X4_24) (fun _ h9 => h9) rfl dX4_isHarmless_34 ?_
      refine lv_iload_n hx hb dX4_isHarmless_37 rfl (lv_at hl 2 rfl) ?_
      refine ro_V (As := [.int k]) (rest := []) ⟨hx, hb, hml, hown, hts⟩ (c_X2_lengthOf l D cI cZ a N pb hN16 k) (cw_X4_87 hts rfl rfl ⟨Nat.le_of_ble_eq_true rfl, Nat.le_of_ble_eq_true rfl⟩) hK (hP.sub [3, 4, 5, 6, 7, 8, 9, 10, 11] rfl) (ci := 2) rfl rfl rfl hl.1 rfl (Nat.le_of_ble_eq_true rfl) dX4_isHarmless_38 ⟨Nat.zero_le _, Nat.zero_le _⟩ ?_
      refine lv_aload_n hx hb dX4_isHarmless_41 rfl (lv_at hl 0 rfl) ?_
      refine va_get (D := D) (ci := 4) (v := .int ro.2.2) (C := RX4) (T := TX4) (N := 4) hx hb hts hin4 hown hK.1 hP 0 rfl rfl 3 (by decide) (hts _ fl_X4_20) (fun _ h9 => h9) rfl dX4_isHarmless_42 ?_
      refine lv_icmp_gt (tgt := 52) hx hb dX4_isHarmless_45 (by decide) (fun c_3 => ?_) (fun c_3 => ?_)
      · skip
        refine lv_iconst (v := 0) hx hb dX4_isHarmless_52 (by decide) ?_
        exact ro_zret hx hb hr hlocks (nar_zb _) (by unfold jHm; simp only [decide_eq_true_eq]; first | exact (zb_t ⟨c_2, Int32.not_lt.mp c_3⟩).symm | exact (zb_f (fun z => absurd z.2 (Int32.not_le.mpr c_3))).symm | exact (zb_f (fun z => c_2 z.1)).symm) dX4_isHarmless_53
      · skip
        refine lv_iconst (v := 1) hx hb dX4_isHarmless_48 (by decide) ?_
        refine lv_goto (tgt := 53) hx hb dX4_isHarmless_49 (by decide) ?_
        exact ro_zret hx hb hr hlocks (nar_zb _) (by unfold jHm; simp only [decide_eq_true_eq]; first | exact (zb_t ⟨c_2, Int32.not_lt.mp c_3⟩).symm | exact (zb_f (fun z => absurd z.2 (Int32.not_le.mpr c_3))).symm | exact (zb_f (fun z => c_2 z.1)).symm) dX4_isHarmless_53

set_option maxHeartbeats 4000000 in
set_option maxRecDepth 100000 in
theorem c_X4_mayGoBadlyWrong (l : Launch) (D : va_G) (cI cZ : ClassId) (a : Nat → Nat) (ro : TR) (hr10 : ro.1 ≤ 10) (N : TN) (pb : Nat → Int32) (hN16 : N_n N ≤ 16) (x c2 r2 : Int32) : RO l D cI cZ yX4_mayGoBadlyWrong wyX4_mayGoBadlyWrong ({ frames := 4, cells := 0, slots := 0, locals := 88 } : Room) [.ref (a 33), .int x, .int c2, .int r2] (wRt a cI ro ++ wNet a cI N pb) (zb (jMw N pb ro x c2 r2 = true)) := by
  refine Met.ofW (cc := cX4_mayGoBadlyWrong) (maxL := 6) (ret := (some .boolean)) (by decide) rfl ?_
  intro p e s m args below meth c s₁ B hml hv
  obtain ⟨rfl, hK, hP⟩ := hv
  have hx := B.exec
  have hb := B.bytes
  have hr := B.returns
  have hts0 := atoms_spec (ws := wyX4_mayGoBadlyWrong) B.pre
  have hts : ∀ w ∈ big, w.before _ s = true := fun w h => hts0 w (List.mem_cons_of_mem _ h)
  have hown : s.vm.findClass RX4 = some m.cls := findClass_of_methodNamed B.named
  have hlocks := B.notSynchronized
  have hl := lv_entry ([.ref (a 33), .int x, .int c2, .int r2]) (n := 6) (Nat.le_of_ble_eq_true rfl)
  rw [lg_entry_eq]
  generalize (lg_sl ([.ref (a 33), .int x, .int c2, .int r2]) ++ List.replicate (6 - (lg_sl ([.ref (a 33), .int x, .int c2, .int r2])).length) Slot.unset).toArray = ls at hl ⊢
  have hl : lv_has ls 6 [(0, .ref (a 33)), (1, .int x), (2, .int c2), (3, .int r2)] := hl
  refine lv_aload_n hx hb dX4_mayGoBadlyWrong_0 rfl (lv_at hl 0 rfl) ?_
  refine va_get (D := D) (ci := 4) (v := .ref (a 1)) (C := RX4) (T := TX4) (N := 4) hx hb hts hin4 hown hK.1 hP 0 rfl rfl 0 (by decide) (hts _ fl_X4_24) (fun _ h9 => h9) rfl dX4_mayGoBadlyWrong_1 ?_
  refine lv_iload_n hx hb dX4_mayGoBadlyWrong_4 rfl (lv_at hl 1 rfl) ?_
  refine ro_V (As := [.int x]) (rest := []) ⟨hx, hb, hml, hown, hts⟩ (c_X2_pathsAt l D cI cZ a N pb hN16 x) (cw_X4_71 hts rfl rfl ⟨Nat.le_of_ble_eq_true rfl, Nat.le_of_ble_eq_true rfl⟩) hK (hP.sub [3, 4, 5, 6, 7, 8, 9, 10, 11] rfl) (ci := 2) rfl rfl rfl hl.1 rfl (Nat.le_of_ble_eq_true rfl) dX4_mayGoBadlyWrong_5 ⟨Nat.zero_le _, Nat.zero_le _⟩ ?_
  refine lv_iload_n hx hb dX4_mayGoBadlyWrong_8 rfl (lv_at hl 2 rfl) ?_
  refine ro_SN (As := [.int c2]) (rest := [.int (zPb pb x)]) ⟨hx, hb, hml, hown, hts⟩ (c_X9_bitOf l D cI cZ  c2) (cw_X4_74 hts rfl rfl hK ⟨Nat.le_of_ble_eq_true rfl, Nat.le_of_ble_eq_true rfl⟩) hK P_nil rfl hl.1 rfl (Nat.le_of_ble_eq_true rfl) dX4_mayGoBadlyWrong_9 ⟨Nat.zero_le _, Nat.zero_le _⟩ ?_
  refine lv_iconst (v := (-1)) hx hb dX4_mayGoBadlyWrong_12 (by decide) ?_
  refine lv_ixor hx hb dX4_mayGoBadlyWrong_13 ?_
  refine lv_iand hx hb dX4_mayGoBadlyWrong_14 ?_
  refine lv_iload_n hx hb dX4_mayGoBadlyWrong_15 rfl (lv_at hl 3 rfl) ?_
  refine ro_SN (As := [.int r2]) (rest := [.int ((zPb pb x) &&& ((zbt c2) ^^^ (-1)))]) ⟨hx, hb, hml, hown, hts⟩ (c_X9_bitOf l D cI cZ  r2) (cw_X4_74 hts rfl rfl hK ⟨Nat.le_of_ble_eq_true rfl, Nat.le_of_ble_eq_true rfl⟩) hK P_nil rfl hl.1 rfl (Nat.le_of_ble_eq_true rfl) dX4_mayGoBadlyWrong_16 ⟨Nat.zero_le _, Nat.zero_le _⟩ ?_
  refine lv_iconst (v := (-1)) hx hb dX4_mayGoBadlyWrong_19 (by decide) ?_
  refine lv_ixor hx hb dX4_mayGoBadlyWrong_20 ?_
  refine lv_iand hx hb dX4_mayGoBadlyWrong_21 ?_
  refine lv_istore (lv' := [(4, .int (((zPb pb x) &&& ((zbt c2) ^^^ (-1))) &&& ((zbt r2) ^^^ (-1)))), (0, .ref (a 33)), (1, .int x), (2, .int c2), (3, .int r2)]) hx hb dX4_mayGoBadlyWrong_22 hl (by decide) rfl (fun ls hl => ?_)
  refine lv_iconst (v := 0) hx hb dX4_mayGoBadlyWrong_24 (by decide) ?_
  refine lv_istore (lv' := [(5, .int 0), (4, .int (((zPb pb x) &&& ((zbt c2) ^^^ (-1))) &&& ((zbt r2) ^^^ (-1)))), (0, .ref (a 33)), (1, .int x), (2, .int c2), (3, .int r2)]) hx hb dX4_mayGoBadlyWrong_25 hl (by decide) rfl (fun ls hl => ?_)
  refine w_loop (α := Nat) (fun a9 => a9 ≤ N_n N ∧ anyB (fun i => decide (¬ (jWr pb x c2 r2 &&& zbt (nI i)) = 0 ∧ ¬ jHm N pb ro x (nI i) = true)) a9 = false) (fun a9 => N_n N - a9) (fun a9 => [(0, .ref (a 33)), (1, .int x), (2, .int c2), (3, .int r2), (4, .int (jWr pb x c2 r2)), (5, .int (nI a9))]) 27 6 ?_ 0 (⟨Nat.zero_le _, rfl⟩) (show lv_has ls 6 [(0, .ref (a 33)), (1, .int x), (2, .int c2), (3, .int r2), (4, .int (jWr pb x c2 r2)), (5, .int (nI 0))] from lv_sub hl [2, 3, 4, 5, 1, 0] rfl)
  intro a9 ls hI hl ih_27
  obtain ⟨i, rfl⟩ : ∃ z, z = a9 := ⟨a9, rfl⟩
  have hI : i ≤ N_n N ∧ anyB (fun i => decide (¬ (jWr pb x c2 r2 &&& zbt (nI i)) = 0 ∧ ¬ jHm N pb ro x (nI i) = true)) i = false := hI
  have hl : lv_has ls 6 [(0, .ref (a 33)), (1, .int x), (2, .int c2), (3, .int r2), (4, .int (jWr pb x c2 r2)), (5, .int (nI i))] := hl
  refine lv_iload hx hb dX4_mayGoBadlyWrong_27 (lv_at hl 5 rfl) ?_
  refine lv_aload_n hx hb dX4_mayGoBadlyWrong_29 rfl (lv_at hl 0 rfl) ?_
  refine va_get (D := D) (ci := 4) (v := .ref (a 1)) (C := RX4) (T := TX4) (N := 4) hx hb hts hin4 hown hK.1 hP 0 rfl rfl 0 (by decide) (hts _ fl_X4_24) (fun _ h9 => h9) rfl dX4_mayGoBadlyWrong_30 ?_
  refine ro_V (As := []) (rest := [.int (nI i)]) ⟨hx, hb, hml, hown, hts⟩ (c_X2_pathCount l D cI cZ a N pb hN16) (cw_X4_77 hts rfl rfl ⟨Nat.le_of_ble_eq_true rfl, Nat.le_of_ble_eq_true rfl⟩) hK (hP.sub [3, 4, 5, 6, 7, 8, 9, 10, 11] rfl) (ci := 2) rfl rfl rfl hl.1 rfl (Nat.le_of_ble_eq_true rfl) dX4_mayGoBadlyWrong_33 ⟨Nat.zero_le _, Nat.zero_le _⟩ ?_
  refine lv_icmp_ge (tgt := 68) hx hb dX4_mayGoBadlyWrong_36 (by decide) (fun c_1 => ?_) (fun c_1 => ?_)
  · skip
    have hge : N_n N ≤ i := zge (by have := hI.1; have := hN16; omega) (by have := hN16; omega) c_1
    refine lv_iconst (v := 0) hx hb dX4_mayGoBadlyWrong_68 (by decide) ?_
    exact ro_zret hx hb hr hlocks (nar_zb _) ((zb_f (by unfold jMw; rw [show N_n N = i by have := hI.1; omega, hI.2]; decide)).symm) dX4_mayGoBadlyWrong_69
  · skip
    have hlt : i < N_n N := zlt (by have := hI.1; have := hN16; omega) (by have := hN16; omega) c_1
    refine lv_iload hx hb dX4_mayGoBadlyWrong_39 (lv_at hl 4 rfl) ?_
    refine lv_iload hx hb dX4_mayGoBadlyWrong_41 (lv_at hl 5 rfl) ?_
    refine ro_SN (As := [.int (nI i)]) (rest := [.int (jWr pb x c2 r2)]) ⟨hx, hb, hml, hown, hts⟩ (c_X9_bitOf l D cI cZ  (nI i)) (cw_X4_74 hts rfl rfl hK ⟨Nat.le_of_ble_eq_true rfl, Nat.le_of_ble_eq_true rfl⟩) hK P_nil rfl hl.1 rfl (Nat.le_of_ble_eq_true rfl) dX4_mayGoBadlyWrong_43 ⟨Nat.zero_le _, Nat.zero_le _⟩ ?_
    refine lv_iand hx hb dX4_mayGoBadlyWrong_46 ?_
    refine lv_if_eq (tgt := 62) hx hb dX4_mayGoBadlyWrong_47 (by decide) (fun c_2 => ?_) (fun c_2 => ?_)
    · skip
      refine lv_iinc (v := (nI (i + 1))) (lv' := [(5, .int (nI (i + 1))), (0, .ref (a 33)), (1, .int x), (2, .int c2), (3, .int r2), (4, .int (jWr pb x c2 r2))]) hx hb dX4_mayGoBadlyWrong_62 hl (k := 5) rfl (nI_add i 1) (by decide) rfl (fun ls hl => ?_)
      refine lv_goto (tgt := 27) hx hb dX4_mayGoBadlyWrong_65 (by decide) ?_
      exact ih_27 (i + 1) ls (show (i + 1) ≤ N_n N ∧ anyB (fun i => decide (¬ (jWr pb x c2 r2 &&& zbt (nI i)) = 0 ∧ ¬ jHm N pb ro x (nI i) = true)) (i + 1) = false from ⟨hlt, by rw [anyB, hI.2, Bool.false_or, decide_eq_false_iff_not]; exact fun z => z.1 c_2⟩) (show N_n N - (i + 1) < N_n N - i from by omega) (show lv_has ls 6 [(0, .ref (a 33)), (1, .int x), (2, .int c2), (3, .int r2), (4, .int (jWr pb x c2 r2)), (5, .int (nI (i + 1)))] from lv_sub hl [1, 2, 3, 4, 5, 0] rfl)
    · skip
      refine lv_aload_n hx hb dX4_mayGoBadlyWrong_50 rfl (lv_at hl 0 rfl) ?_
      refine lv_iload_n hx hb dX4_mayGoBadlyWrong_51 rfl (lv_at hl 1 rfl) ?_
      refine lv_iload hx hb dX4_mayGoBadlyWrong_52 (lv_at hl 5 rfl) ?_
      refine ro_V (As := [.int x, .int (nI i)]) (rest := []) ⟨hx, hb, hml, hown, hts⟩ (c_X4_isHarmless l D cI cZ a ro hr10 N pb hN16 x (nI i)) (cw_X4_80 hts rfl rfl ⟨Nat.le_of_ble_eq_true rfl, Nat.le_of_ble_eq_true rfl⟩) hK hP (ci := 4) rfl rfl rfl hl.1 rfl (Nat.le_of_ble_eq_true rfl) dX4_mayGoBadlyWrong_54 ⟨Nat.zero_le _, Nat.zero_le _⟩ ?_
      refine lv_if_ne (tgt := 62) hx hb dX4_mayGoBadlyWrong_57 (by decide) (fun c_3 => ?_) (fun c_3 => ?_)
      · skip
        have c_3 := zb_ne0 c_3
        refine lv_iinc (v := (nI (i + 1))) (lv' := [(5, .int (nI (i + 1))), (0, .ref (a 33)), (1, .int x), (2, .int c2), (3, .int r2), (4, .int (jWr pb x c2 r2))]) hx hb dX4_mayGoBadlyWrong_62 hl (k := 5) rfl (nI_add i 1) (by decide) rfl (fun ls hl => ?_)
        refine lv_goto (tgt := 27) hx hb dX4_mayGoBadlyWrong_65 (by decide) ?_
        exact ih_27 (i + 1) ls (show (i + 1) ≤ N_n N ∧ anyB (fun i => decide (¬ (jWr pb x c2 r2 &&& zbt (nI i)) = 0 ∧ ¬ jHm N pb ro x (nI i) = true)) (i + 1) = false from ⟨hlt, by rw [anyB, hI.2, Bool.false_or, decide_eq_false_iff_not]; exact fun z => z.2 c_3⟩) (show N_n N - (i + 1) < N_n N - i from by omega) (show lv_has ls 6 [(0, .ref (a 33)), (1, .int x), (2, .int c2), (3, .int r2), (4, .int (jWr pb x c2 r2)), (5, .int (nI (i + 1)))] from lv_sub hl [1, 2, 3, 4, 5, 0] rfl)
      · skip
        have c_3 := zb_eq0 c_3
        refine lv_iconst (v := 1) hx hb dX4_mayGoBadlyWrong_60 (by decide) ?_
        exact ro_zret hx hb hr hlocks (nar_zb _) ((zb_t ((anyB_iff _).mpr ⟨i, hlt, decide_eq_true ⟨c_2, c_3⟩⟩)).symm) dX4_mayGoBadlyWrong_61

set_option maxHeartbeats 4000000 in
set_option maxRecDepth 100000 in
theorem c_X4_marksNeeded (l : Launch) (D : va_G) (cI cZ : ClassId) (a : Nat → Nat) (ro : TR) (hr10 : ro.1 ≤ 10) (w : Nat × (Nat → Int32) × Int32 × Int32) (hw : w.1 ≤ 31) (S : TS) (sb : Nat → Int32) (q : TQ) (hS24 : S_n S ≤ 24) (N : TN) (pb : Nat → Int32) (hN16 : N_n N ≤ 16) (y : Int32) : RO l D cI cZ yX4_marksNeeded wyX4_marksNeeded ({ frames := 5, cells := 0, slots := 0, locals := 113 } : Room) [.ref (a 33), .int y] (wRt a cI ro ++ wWk a cI w ++ wSg a cI S sb q ++ wNet a cI N pb) (jMn S sb q N pb ro y) := by
  refine Met.ofW (cc := cX4_marksNeeded) (maxL := 8) (ret := (some .int)) (by decide) rfl ?_
  intro p e s m args below meth c s₁ B hml hv
  obtain ⟨rfl, hK, hP⟩ := hv
  have hx := B.exec
  have hb := B.bytes
  have hr := B.returns
  have hts0 := atoms_spec (ws := wyX4_marksNeeded) B.pre
  have hts : ∀ w ∈ big, w.before _ s = true := fun w h => hts0 w (List.mem_cons_of_mem _ h)
  have hown : s.vm.findClass RX4 = some m.cls := findClass_of_methodNamed B.named
  have hlocks := B.notSynchronized
  have hl := lv_entry ([.ref (a 33), .int y]) (n := 8) (Nat.le_of_ble_eq_true rfl)
  rw [lg_entry_eq]
  generalize (lg_sl ([.ref (a 33), .int y]) ++ List.replicate (8 - (lg_sl ([.ref (a 33), .int y])).length) Slot.unset).toArray = ls at hl ⊢
  have hl : lv_has ls 8 [(0, .ref (a 33)), (1, .int y)] := hl
  refine w_join (α := Int32) (fun a9 => a9 = (if y = 0 then 1 else -1)) (fun a9 => [(0, .ref (a 33)), (1, .int y), (2, .int a9)]) (fun a9 => []) 10 8 (fun hJ_10 => ?_) ?_
  · skip
    refine lv_iload_n hx hb dX4_marksNeeded_0 rfl (lv_at hl 1 rfl) ?_
    refine lv_if_ne (tgt := 8) hx hb dX4_marksNeeded_1 (by decide) (fun c_1 => ?_) (fun c_1 => ?_)
    · skip
      refine lv_iconst (v := (-1)) hx hb dX4_marksNeeded_8 (by decide) ?_
      refine lv_istore_n (lv' := [(2, .int (-1)), (0, .ref (a 33)), (1, .int y)]) hx hb dX4_marksNeeded_9 rfl hl (by decide) rfl (fun ls hl => ?_)
      exact hJ_10 (-1) ls (show (-1) = (if y = 0 then 1 else -1) from by first | exact (if_pos c_1).symm | exact (if_neg c_1).symm) (show lv_has ls 8 [(0, .ref (a 33)), (1, .int y), (2, .int (-1))] from lv_sub hl [1, 2, 0] rfl)
    · skip
      refine lv_iconst (v := 1) hx hb dX4_marksNeeded_4 (by decide) ?_
      refine lv_goto (tgt := 9) hx hb dX4_marksNeeded_5 (by decide) ?_
      refine lv_istore_n (lv' := [(2, .int 1), (0, .ref (a 33)), (1, .int y)]) hx hb dX4_marksNeeded_9 rfl hl (by decide) rfl (fun ls hl => ?_)
      exact hJ_10 1 ls (show 1 = (if y = 0 then 1 else -1) from by first | exact (if_pos c_1).symm | exact (if_neg c_1).symm) (show lv_has ls 8 [(0, .ref (a 33)), (1, .int y), (2, .int 1)] from lv_sub hl [1, 2, 0] rfl)
  · skip
    intro a9 ls hI hl
    obtain ⟨z, rfl⟩ : ∃ z, z = a9 := ⟨a9, rfl⟩
    have hI : z = (if y = 0 then 1 else -1) := hI
    have hl : lv_has ls 8 [(0, .ref (a 33)), (1, .int y), (2, .int z)] := hl
    have hz9 := hI
    refine lv_iconst (v := 0) hx hb dX4_marksNeeded_10 (by decide) ?_
    refine lv_istore_n (lv' := [(3, .int 0), (0, .ref (a 33)), (1, .int y), (2, .int z)]) hx hb dX4_marksNeeded_11 rfl hl (by decide) rfl (fun ls hl => ?_)
    refine lv_iconst (v := 0) hx hb dX4_marksNeeded_12 (by decide) ?_
    refine lv_istore (lv' := [(4, .int 0), (3, .int 0), (0, .ref (a 33)), (1, .int y), (2, .int z)]) hx hb dX4_marksNeeded_13 hl (by decide) rfl (fun ls hl => ?_)
    refine w_loop (α := Nat) (fun a9 => a9 ≤ ro.1) (fun a9 => ro.1 - a9) (fun a9 => [(0, .ref (a 33)), (2, .int z), (3, .int (jMk S sb q N pb ro z a9)), (4, .int (nI a9))]) 15 8 ?_ 0 (Nat.zero_le _) (show lv_has ls 8 [(0, .ref (a 33)), (2, .int z), (3, .int (jMk S sb q N pb ro z 0)), (4, .int (nI 0))] from lv_sub hl [2, 4, 1, 0] rfl)
    intro a9 ls hI hl ih_15
    obtain ⟨k, rfl⟩ : ∃ z, z = a9 := ⟨a9, rfl⟩
    have hI : k ≤ ro.1 := hI
    have hl : lv_has ls 8 [(0, .ref (a 33)), (2, .int z), (3, .int (jMk S sb q N pb ro z k)), (4, .int (nI k))] := hl
    refine lv_iload hx hb dX4_marksNeeded_15 (lv_at hl 3 rfl) ?_
    refine lv_aload_n hx hb dX4_marksNeeded_17 rfl (lv_at hl 0 rfl) ?_
    refine ro_V (As := []) (rest := [.int (nI k)]) ⟨hx, hb, hml, hown, hts⟩ (c_X4_placeCount l D cI cZ a ro hr10) (cw_X4_40 hts rfl rfl ⟨Nat.le_of_ble_eq_true rfl, Nat.le_of_ble_eq_true rfl⟩) hK (hP.sub [0, 1, 2] rfl) (ci := 4) rfl rfl rfl hl.1 rfl (Nat.le_of_ble_eq_true rfl) dX4_marksNeeded_18 ⟨Nat.zero_le _, Nat.zero_le _⟩ ?_
    refine lv_icmp_ge (tgt := 127) hx hb dX4_marksNeeded_21 (by decide) (fun c_2 => ?_) (fun c_2 => ?_)
    · skip
      have hge : ro.1 ≤ k := zge (by have := hI; omega) (by omega) c_2
      refine lv_iload_n hx hb dX4_marksNeeded_127 rfl (lv_at hl 2 rfl) ?_
      exact ro_iret hx hb hr hlocks (by unfold jMn; rw [← hz9, show ro.1 = k by omega]) dX4_marksNeeded_128
    · skip
      have hlt : k < ro.1 := zlt (by have := hI; omega) (by omega) c_2
      refine lv_aload_n hx hb dX4_marksNeeded_24 rfl (lv_at hl 0 rfl) ?_
      refine va_get (D := D) (ci := 4) (v := .ref (a 34)) (C := RX4) (T := TX4) (N := 4) hx hb hts hin4 hown hK.1 hP 0 rfl rfl 2 (by decide) (hts _ fl_X4_16) (fun _ h9 => h9) rfl dX4_marksNeeded_25 ?_
      refine lv_iload hx hb dX4_marksNeeded_28 (lv_at hl 3 rfl) ?_
      refine ro_V (As := [.int (nI k)]) (rest := []) ⟨hx, hb, hml, hown, hts⟩ (c_X5_get l D cI cZ (a 34) (a 35) 10 (ro.1) (ro.2.1) hr10 (by decide) (nI k)) (cw_X4_46 hts rfl rfl ⟨Nat.le_of_ble_eq_true rfl, Nat.le_of_ble_eq_true rfl⟩) hK (hP.sub [1, 2] rfl) (ci := 5) rfl rfl rfl hl.1 rfl (Nat.le_of_ble_eq_true rfl) dX4_marksNeeded_30 ⟨Nat.zero_le _, Nat.zero_le _⟩ ?_
      rw [rg_in hlt (show (ro.1) < 2 ^ 31 by have := hr10; omega)]
      refine lv_istore (lv' := [(5, .int ((ro.2.1) k)), (0, .ref (a 33)), (2, .int z), (3, .int (jMk S sb q N pb ro z k)), (4, .int (nI k))]) hx hb dX4_marksNeeded_33 hl (by decide) rfl (fun ls hl => ?_)
      refine lv_aload_n hx hb dX4_marksNeeded_35 rfl (lv_at hl 1 rfl) ?_
      refine va_get (D := D) (ci := 4) (v := .ref (a 1)) (C := RX4) (T := TX4) (N := 4) hx hb hts hin4 hown hK.1 hP 0 rfl rfl 0 (by decide) (hts _ fl_X4_24) (fun _ h9 => h9) rfl dX4_marksNeeded_36 ?_
      refine lv_iload hx hb dX4_marksNeeded_39 (lv_at hl 0 rfl) ?_
      refine lv_aload_n hx hb dX4_marksNeeded_41 rfl (lv_at hl 1 rfl) ?_
      refine va_get (D := D) (ci := 4) (v := .ref (a 34)) (C := RX4) (T := TX4) (N := 4) hx hb hts hin4 hown hK.1 hP 0 rfl rfl 2 (by decide) (hts _ fl_X4_16) (fun _ h9 => h9) rfl dX4_marksNeeded_42 ?_
      refine lv_iload hx hb dX4_marksNeeded_45 (lv_at hl 4 rfl) ?_
      refine lv_iload_n hx hb dX4_marksNeeded_47 rfl (lv_at hl 2 rfl) ?_
      refine lv_iadd hx hb dX4_marksNeeded_48 ?_
      refine ro_V (As := [.int ((nI k) + z)]) (rest := [.int ((ro.2.1) k), .ref (a 1)]) ⟨hx, hb, hml, hown, hts⟩ (c_X5_get l D cI cZ (a 34) (a 35) 10 (ro.1) (ro.2.1) hr10 (by decide) ((nI k) + z)) (cw_X4_46 hts rfl rfl ⟨Nat.le_of_ble_eq_true rfl, Nat.le_of_ble_eq_true rfl⟩) hK (hP.sub [1, 2] rfl) (ci := 5) rfl rfl rfl hl.1 rfl (Nat.le_of_ble_eq_true rfl) dX4_marksNeeded_49 ⟨Nat.zero_le _, Nat.zero_le _⟩ ?_
      refine ro_V (As := [.int ((ro.2.1) k), .int (rg (ro.1) (ro.2.1) ((nI k) + z))]) (rest := []) ⟨hx, hb, hml, hown, hts⟩ (c_X2_joining l D cI cZ a N pb hN16 ((ro.2.1) k) (rg (ro.1) (ro.2.1) ((nI k) + z))) (cw_X4_50 hts rfl rfl ⟨Nat.le_of_ble_eq_true rfl, Nat.le_of_ble_eq_true rfl⟩) hK (hP.sub [21, 22, 23, 24, 25, 26, 27, 28, 29] rfl) (ci := 2) rfl rfl rfl hl.1 rfl (Nat.le_of_ble_eq_true rfl) dX4_marksNeeded_52 ⟨Nat.zero_le _, Nat.zero_le _⟩ ?_
      refine lv_istore (lv' := [(6, .int (jJo pb ((ro.2.1) k) (rg (ro.1) (ro.2.1) ((nI k) + z)))), (5, .int ((ro.2.1) k)), (0, .ref (a 33)), (2, .int z), (3, .int (jMk S sb q N pb ro z k)), (4, .int (nI k))]) hx hb dX4_marksNeeded_55 hl (by decide) rfl (fun ls hl => ?_)
      have hl : lv_has ls 8 [(6, .int (jMr pb ro z k)), (5, .int ((ro.2.1) k)), (0, .ref (a 33)), (2, .int z), (3, .int (jMk S sb q N pb ro z k)), (4, .int (nI k))] := hl
      refine lv_aload_n hx hb dX4_marksNeeded_57 rfl (lv_at hl 2 rfl) ?_
      refine va_get (D := D) (ci := 4) (v := .ref (a 1)) (C := RX4) (T := TX4) (N := 4) hx hb hts hin4 hown hK.1 hP 0 rfl rfl 0 (by decide) (hts _ fl_X4_24) (fun _ h9 => h9) rfl dX4_marksNeeded_58 ?_
      refine lv_iload hx hb dX4_marksNeeded_61 (lv_at hl 1 rfl) ?_
      refine lv_aload_n hx hb dX4_marksNeeded_63 rfl (lv_at hl 2 rfl) ?_
      refine va_get (D := D) (ci := 4) (v := .ref (a 34)) (C := RX4) (T := TX4) (N := 4) hx hb hts hin4 hown hK.1 hP 0 rfl rfl 2 (by decide) (hts _ fl_X4_16) (fun _ h9 => h9) rfl dX4_marksNeeded_64 ?_
      refine lv_iload hx hb dX4_marksNeeded_67 (lv_at hl 5 rfl) ?_
      refine lv_iload_n hx hb dX4_marksNeeded_69 rfl (lv_at hl 3 rfl) ?_
      refine lv_isub hx hb dX4_marksNeeded_70 ?_
      refine ro_V (As := [.int ((nI k) - z)]) (rest := [.int ((ro.2.1) k), .ref (a 1)]) ⟨hx, hb, hml, hown, hts⟩ (c_X5_get l D cI cZ (a 34) (a 35) 10 (ro.1) (ro.2.1) hr10 (by decide) ((nI k) - z)) (cw_X4_46 hts rfl rfl ⟨Nat.le_of_ble_eq_true rfl, Nat.le_of_ble_eq_true rfl⟩) hK (hP.sub [1, 2] rfl) (ci := 5) rfl rfl rfl hl.1 rfl (Nat.le_of_ble_eq_true rfl) dX4_marksNeeded_71 ⟨Nat.zero_le _, Nat.zero_le _⟩ ?_
      refine ro_V (As := [.int ((ro.2.1) k), .int (rg (ro.1) (ro.2.1) ((nI k) - z))]) (rest := []) ⟨hx, hb, hml, hown, hts⟩ (c_X2_joining l D cI cZ a N pb hN16 ((ro.2.1) k) (rg (ro.1) (ro.2.1) ((nI k) - z))) (cw_X4_50 hts rfl rfl ⟨Nat.le_of_ble_eq_true rfl, Nat.le_of_ble_eq_true rfl⟩) hK (hP.sub [21, 22, 23, 24, 25, 26, 27, 28, 29] rfl) (ci := 2) rfl rfl rfl hl.1 rfl (Nat.le_of_ble_eq_true rfl) dX4_marksNeeded_74 ⟨Nat.zero_le _, Nat.zero_le _⟩ ?_
      refine lv_istore (lv' := [(7, .int (jJo pb ((ro.2.1) k) (rg (ro.1) (ro.2.1) ((nI k) - z)))), (6, .int (jMr pb ro z k)), (5, .int ((ro.2.1) k)), (0, .ref (a 33)), (2, .int z), (3, .int (jMk S sb q N pb ro z k)), (4, .int (nI k))]) hx hb dX4_marksNeeded_77 hl (by decide) rfl (fun ls hl => ?_)
      have hl : lv_has ls 8 [(7, .int (jMc pb ro z k)), (6, .int (jMr pb ro z k)), (5, .int ((ro.2.1) k)), (0, .ref (a 33)), (2, .int z), (3, .int (jMk S sb q N pb ro z k)), (4, .int (nI k))] := hl
      refine lv_iload hx hb dX4_marksNeeded_79 (lv_at hl 1 rfl) ?_
      refine lv_iconst (v := (-1)) hx hb dX4_marksNeeded_81 (by decide) ?_
      refine lv_icmp_eq (tgt := 121) hx hb dX4_marksNeeded_82 (by decide) (fun c_3 => ?_) (fun c_3 => ?_)
      · skip
        have hl : lv_has ls 8 [(7, .int (jMc pb ro z k)), (6, .int (jMr pb ro z k)), (5, .int ((ro.2.1) k)), (0, .ref (a 33)), (2, .int z), (3, .int (jMk S sb q N pb ro z (k + 1))), (4, .int (nI k))] := by rw [show jMk S sb q N pb ro z (k + 1) = (jMk S sb q N pb ro z k) from by rw [jMk]; rw [if_neg (fun z9 => z9.1 c_3)]]; exact hl
        refine lv_iinc (v := (nI (k + 1))) (lv' := [(4, .int (nI (k + 1))), (7, .int (jMc pb ro z k)), (6, .int (jMr pb ro z k)), (5, .int ((ro.2.1) k)), (0, .ref (a 33)), (2, .int z), (3, .int (jMk S sb q N pb ro z (k + 1)))]) hx hb dX4_marksNeeded_121 hl (k := 6) rfl (nI_add k 1) (by decide) rfl (fun ls hl => ?_)
        refine lv_goto (tgt := 15) hx hb dX4_marksNeeded_124 (by decide) ?_
        exact ih_15 (k + 1) ls (show (k + 1) ≤ ro.1 from hlt) (show ro.1 - (k + 1) < ro.1 - k from by omega) (show lv_has ls 8 [(0, .ref (a 33)), (2, .int z), (3, .int (jMk S sb q N pb ro z (k + 1))), (4, .int (nI (k + 1)))] from lv_sub hl [4, 5, 6, 0] rfl)
      · skip
        refine lv_aload_n hx hb dX4_marksNeeded_85 rfl (lv_at hl 3 rfl) ?_
        refine lv_iload hx hb dX4_marksNeeded_86 (lv_at hl 2 rfl) ?_
        refine lv_iload hx hb dX4_marksNeeded_88 (lv_at hl 0 rfl) ?_
        refine lv_iload hx hb dX4_marksNeeded_90 (lv_at hl 1 rfl) ?_
        refine ro_V (As := [.int ((ro.2.1) k), .int (jMc pb ro z k), .int (jMr pb ro z k)]) (rest := []) ⟨hx, hb, hml, hown, hts⟩ (c_X4_mayGoBadlyWrong l D cI cZ a ro hr10 N pb hN16 ((ro.2.1) k) (jMc pb ro z k) (jMr pb ro z k)) (cw_X4_62 hts rfl rfl ⟨Nat.le_of_ble_eq_true rfl, Nat.le_of_ble_eq_true rfl⟩) hK (hP.sub [0, 1, 2, 21, 22, 23, 24, 25, 26, 27, 28, 29] rfl) (ci := 4) rfl rfl rfl hl.1 rfl (Nat.le_of_ble_eq_true rfl) dX4_marksNeeded_92 ⟨Nat.zero_le _, Nat.zero_le _⟩ ?_
        refine lv_if_eq (tgt := 121) hx hb dX4_marksNeeded_95 (by decide) (fun c_4 => ?_) (fun c_4 => ?_)
        · skip
          have c_4 := zb_eq0 c_4
          have hl : lv_has ls 8 [(7, .int (jMc pb ro z k)), (6, .int (jMr pb ro z k)), (5, .int ((ro.2.1) k)), (0, .ref (a 33)), (2, .int z), (3, .int (jMk S sb q N pb ro z (k + 1))), (4, .int (nI k))] := by rw [show jMk S sb q N pb ro z (k + 1) = (jMk S sb q N pb ro z k) from by rw [jMk]; rw [if_neg (fun z9 => c_4 z9.2.1)]]; exact hl
          refine lv_iinc (v := (nI (k + 1))) (lv' := [(4, .int (nI (k + 1))), (7, .int (jMc pb ro z k)), (6, .int (jMr pb ro z k)), (5, .int ((ro.2.1) k)), (0, .ref (a 33)), (2, .int z), (3, .int (jMk S sb q N pb ro z (k + 1)))]) hx hb dX4_marksNeeded_121 hl (k := 6) rfl (nI_add k 1) (by decide) rfl (fun ls hl => ?_)
          refine lv_goto (tgt := 15) hx hb dX4_marksNeeded_124 (by decide) ?_
          exact ih_15 (k + 1) ls (show (k + 1) ≤ ro.1 from hlt) (show ro.1 - (k + 1) < ro.1 - k from by omega) (show lv_has ls 8 [(0, .ref (a 33)), (2, .int z), (3, .int (jMk S sb q N pb ro z (k + 1))), (4, .int (nI (k + 1)))] from lv_sub hl [4, 5, 6, 0] rfl)
        · skip
          have c_4 := zb_ne0 c_4
          refine lv_aload_n hx hb dX4_marksNeeded_98 rfl (lv_at hl 3 rfl) ?_
          refine va_get (D := D) (ci := 4) (v := .ref (a 25)) (C := RX4) (T := TX4) (N := 4) hx hb hts hin4 hown hK.1 hP 0 rfl rfl 1 (by decide) (hts _ fl_X4_28) (fun _ h9 => h9) rfl dX4_marksNeeded_99 ?_
          refine lv_iload hx hb dX4_marksNeeded_102 (lv_at hl 2 rfl) ?_
          refine lv_iload hx hb dX4_marksNeeded_104 (lv_at hl 0 rfl) ?_
          refine ro_V (As := [.int ((ro.2.1) k), .int (jMc pb ro z k)]) (rest := []) ⟨hx, hb, hml, hown, hts⟩ (c_X8_choice l D cI cZ a w hw S sb q hS24 N pb hN16 ((ro.2.1) k) (jMc pb ro z k)) (cw_X4_66 hts rfl rfl ⟨Nat.le_of_ble_eq_true rfl, Nat.le_of_ble_eq_true rfl⟩) hK (hP.sub [3, 4, 5, 6, 7, 8, 9, 10, 11, 12, 13, 14, 15, 16, 17, 18, 19, 20, 21, 22, 23, 24, 25, 26, 27, 28, 29] rfl) (ci := 8) rfl rfl rfl hl.1 rfl (Nat.le_of_ble_eq_true rfl) dX4_marksNeeded_106 ⟨Nat.zero_le _, Nat.zero_le _⟩ ?_
          refine lv_iload hx hb dX4_marksNeeded_109 (lv_at hl 1 rfl) ?_
          refine lv_icmp_eq (tgt := 121) hx hb dX4_marksNeeded_111 (by decide) (fun c_5 => ?_) (fun c_5 => ?_)
          · skip
            have hl : lv_has ls 8 [(7, .int (jMc pb ro z k)), (6, .int (jMr pb ro z k)), (5, .int ((ro.2.1) k)), (0, .ref (a 33)), (2, .int z), (3, .int (jMk S sb q N pb ro z (k + 1))), (4, .int (nI k))] := by rw [show jMk S sb q N pb ro z (k + 1) = (jMk S sb q N pb ro z k) from by rw [jMk]; rw [if_neg (fun z9 => z9.2.2 c_5)]]; exact hl
            refine lv_iinc (v := (nI (k + 1))) (lv' := [(4, .int (nI (k + 1))), (7, .int (jMc pb ro z k)), (6, .int (jMr pb ro z k)), (5, .int ((ro.2.1) k)), (0, .ref (a 33)), (2, .int z), (3, .int (jMk S sb q N pb ro z (k + 1)))]) hx hb dX4_marksNeeded_121 hl (k := 6) rfl (nI_add k 1) (by decide) rfl (fun ls hl => ?_)
            refine lv_goto (tgt := 15) hx hb dX4_marksNeeded_124 (by decide) ?_
            exact ih_15 (k + 1) ls (show (k + 1) ≤ ro.1 from hlt) (show ro.1 - (k + 1) < ro.1 - k from by omega) (show lv_has ls 8 [(0, .ref (a 33)), (2, .int z), (3, .int (jMk S sb q N pb ro z (k + 1))), (4, .int (nI (k + 1)))] from lv_sub hl [4, 5, 6, 0] rfl)
          · skip
            refine lv_iload_n hx hb dX4_marksNeeded_114 rfl (lv_at hl 5 rfl) ?_
            refine lv_iconst (v := 1) hx hb dX4_marksNeeded_115 (by decide) ?_
            refine lv_iload hx hb dX4_marksNeeded_116 (lv_at hl 2 rfl) ?_
            refine lv_ishl hx hb dX4_marksNeeded_118 ?_
            refine lv_ior hx hb dX4_marksNeeded_119 ?_
            refine lv_istore_n (lv' := [(3, .int ((jMk S sb q N pb ro z k) ||| (1 <<< (((ro.2.1) k) &&& 31)))), (7, .int (jMc pb ro z k)), (6, .int (jMr pb ro z k)), (5, .int ((ro.2.1) k)), (0, .ref (a 33)), (2, .int z), (4, .int (nI k))]) hx hb dX4_marksNeeded_120 rfl hl (by decide) rfl (fun ls hl => ?_)
            have hl : lv_has ls 8 [(3, .int (jMk S sb q N pb ro z (k + 1))), (7, .int (jMc pb ro z k)), (6, .int (jMr pb ro z k)), (5, .int ((ro.2.1) k)), (0, .ref (a 33)), (2, .int z), (4, .int (nI k))] := by rw [show jMk S sb q N pb ro z (k + 1) = ((jMk S sb q N pb ro z k) ||| (1 <<< (((ro.2.1) k) &&& 31))) from by rw [jMk]; rw [if_pos ⟨c_3, c_4, c_5⟩]]; exact hl
            refine lv_iinc (v := (nI (k + 1))) (lv' := [(4, .int (nI (k + 1))), (3, .int (jMk S sb q N pb ro z (k + 1))), (7, .int (jMc pb ro z k)), (6, .int (jMr pb ro z k)), (5, .int ((ro.2.1) k)), (0, .ref (a 33)), (2, .int z)]) hx hb dX4_marksNeeded_121 hl (k := 6) rfl (nI_add k 1) (by decide) rfl (fun ls hl => ?_)
            refine lv_goto (tgt := 15) hx hb dX4_marksNeeded_124 (by decide) ?_
            exact ih_15 (k + 1) ls (show (k + 1) ≤ ro.1 from hlt) (show ro.1 - (k + 1) < ro.1 - k from by omega) (show lv_has ls 8 [(0, .ref (a 33)), (2, .int z), (3, .int (jMk S sb q N pb ro z (k + 1))), (4, .int (nI (k + 1)))] from lv_sub hl [5, 6, 1, 0] rfl)
