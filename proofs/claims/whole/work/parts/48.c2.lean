def adr (L : List Nat) : Nat → Nat := fun k => L.getD k 0
set_option maxHeartbeats 4000000 in
set_option maxRecDepth 100000 in
theorem c_X4_init (l : Launch) (D : va_G) (cI cZ : ClassId) (h0 sz : Nat) (x1 x2 : Nat) : CV l D cI cZ yX4_init wyX4_init ({ frames := 2, cells := 2, slots := 12, locals := 43 } : Room) [.ref h0, .ref x1, .ref x2] [(h0, .inr (4, [.null, .null, .null, .int 0]))] sz (fun u : Nat → Nat => [(h0, .inr (4, [.ref x1, .ref x2, .ref (u 0), .int 0])), ((u 0), .inr (5, [.ref (u 1), .int 0])), ((u 1), .inl (cI, (10, .inl (fun _ => 0))))]) 2 12 := by
  refine Met.ofW (cc := cX4_init) (maxL := 3) (ret := none) (by decide) rfl ?_
  intro p e s m args below meth c s₁ B hml hv
  obtain ⟨rfl, hsz, hK, hP, hD0⟩ := hv
  have hx := B.exec
  have hb := B.bytes
  have hr := B.returns
  have hts0 := atoms_spec (ws := wyX4_init) B.pre
  have hts : ∀ w ∈ big, w.before _ s = true := fun w h => hts0 w (List.mem_cons_of_mem _ h)
  have hown : s.vm.findClass RX4 = some m.cls := findClass_of_methodNamed B.named
  have hlocks := B.notSynchronized
  have hin : meth.name = "<init>" := (name_of_methodNamed B.named B.method).1
  subst hsz
  have hD := hD0.self (sz := s.heap.size)
  generalize hAe : va_A [(h0, .inr (4, [.null, .null, .null, .int 0]))] s.heap.size = A at hD ⊢
  have hA : ∀ q : Nat, s.heap.size ≤ q → A q := fun q h => by rw [← hAe]; exact Or.inr h
  have hS : va_S A s.heap s.heap [] := va_S.rf
  have hl := lv_entry ([.ref h0, .ref x1, .ref x2]) (n := 3) (Nat.le_of_ble_eq_true rfl)
  rw [lg_entry_eq]
  generalize (lg_sl ([.ref h0, .ref x1, .ref x2]) ++ List.replicate (3 - (lg_sl ([.ref h0, .ref x1, .ref x2])).length) Slot.unset).toArray = ls at hl ⊢
  have hl : lv_has ls 3 [(0, .ref h0), (1, .ref x1), (2, .ref x2)] := hl
  refine lv_aload_n hx hb dX4_init_0 rfl (lv_at hl 0 rfl) ?_
  refine W.objInit hx hb hown (hts _ ml_X4_3) (hts _ kx_oi) (hts _ kx_oc) rfl (by rw [hml]; exact hl.1) rfl dX4_init_1 (Nat.le_of_ble_eq_true rfl) (Nat.le_of_ble_eq_true rfl) ?_
  refine W.eq (g2 := F0 m 4 ls []) rfl ?_
  refine lv_aload_n hx hb dX4_init_4 rfl (lv_at hl 0 rfl) ?_
  refine va_new (ci := 5) (fs := [.null, .int 0]) (C := RX5) (T := TX5) (N := 2) hx hb hts hin5 tyX5 tyX5_ok hown (hts _ kx_classLink_RX4_9_RX5) (hts _ kx_instantiable_RX5_2) (hts _ kx_initialized_RX5) hK.1 hP hD hS hA rfl (fun j hj => by rcases (show j = 0 ∨ j = 1 by omega) with rfl | rfl <;> rfl) (Nat.le_of_ble_eq_true rfl) (Nat.le_of_ble_eq_true rfl) dX4_init_5 (fun q0 H hP hD hS => ?_)
  have hP : va_P D vwCl [(h0, .inr (4, [.null, .null, .null, .int 0])), (q0, .inr (5, [.null, .int 0]))] H := hP
  have hD : va_D A [(h0, .inr (4, [.null, .null, .null, .int 0])), (q0, .inr (5, [.null, .int 0]))] := hD
  refine W.widen (k := 1) (n := 2) (Nat.le_of_ble_eq_true rfl) (Nat.le_of_ble_eq_true rfl) ?_
  refine lv_dup hx hb dX4_init_8 rfl ?_
  refine lv_bipush (v := 10) hx hb dX4_init_9 (by decide) ?_
  have hPc := hP.sub (ws' := [(q0, .inr (5, [.null, .int 0]))]) [1] rfl
  have hDc := hD.sub (ws' := [(q0, .inr (5, [.null, .int 0]))]) [1] (by decide) rfl
  have hFc := va_free (wc := [(q0, .inr (5, [.null, .int 0]))]) hD hS hA [1] rfl
  refine va_callv (va_runI (As := [.int (nI 10)]) (rest := [.ref q0, .ref h0]) ⟨hx, hb, hml, hown, hts⟩ (c_X5_init l D cI cZ q0 H.size 10 (by decide)) (cw_X4_13 hts rfl rfl ⟨Nat.le_of_ble_eq_true rfl, Nat.le_of_ble_eq_true rfl⟩) (cv_pre hK hPc (hDc.weaken (fun _ _ _ _ => trivial))) rfl rfl hl.1 rfl (lv_room (Nat.le_of_ble_eq_true rfl)) dX4_init_11 ⟨Nat.le_of_ble_eq_true rfl, Nat.le_of_ble_eq_true rfl⟩) hS (fun q _ h => hFc q h) hFc (fun u0 t H1 locs ht hvm hw hB hz1 hk1 hS => ?_)
  obtain ⟨hP1, hD1⟩ := hB
  rw [ht] at hP1
  obtain ⟨hP, hD⟩ := va_join (wr := [(h0, .inr (4, [.null, .null, .null, .int 0]))]) (w1 := [(q0, .inr (5, [.ref u0, .int 0])), (u0, .inl (cI, (10, .inl (fun _ => 0))))]) hP hD [1] [0] rfl rfl (by decide) (by decide) hk1 hFc hP1 hD1
  generalize H1 = H at hP hS ⊢
  have hP : va_P D vwCl [(h0, .inr (4, [.null, .null, .null, .int 0])), (q0, .inr (5, [.ref u0, .int 0])), (u0, .inl (cI, (10, .inl (fun _ => 0))))] H := hP
  have hD : va_D A [(h0, .inr (4, [.null, .null, .null, .int 0])), (q0, .inr (5, [.ref u0, .int 0])), (u0, .inl (cI, (10, .inl (fun _ => 0))))] := hD
  refine W.widen (k := 2) (n := 12) (Nat.le_of_ble_eq_true rfl) (Nat.le_of_ble_eq_true rfl) ?_
  clear hPc hDc hFc hP1 hD1 hk1 hz1 hw
  refine va_putF (D := D) (ci := 4) (v := .ref q0) (ty := .object "TwigsAndStones$Row") (C := RX4) (T := TX4) (N := 4) hx hb hts hin4 tyX4 tyX4_ok nmX4 hown hK.1 hP hD hS 0 rfl rfl 2 (by decide) (hts _ fl_X4_16) (fun _ h9 => h9) rfl hin rfl (by decide +kernel) rfl rfl (Nat.le_of_ble_eq_true rfl) dX4_init_14 (fun H locs hP hD hS => ?_)
  have hP : va_P D vwCl [(h0, .inr (4, [.null, .null, .ref q0, .int 0])), (q0, .inr (5, [.ref u0, .int 0])), (u0, .inl (cI, (10, .inl (fun _ => 0))))] H := hP
  have hD : va_D A [(h0, .inr (4, [.null, .null, .ref q0, .int 0])), (q0, .inr (5, [.ref u0, .int 0])), (u0, .inl (cI, (10, .inl (fun _ => 0))))] := hD
  refine lv_aload_n hx hb dX4_init_17 rfl (lv_at hl 0 rfl) ?_
  refine lv_iconst (v := 0) hx hb dX4_init_18 (by decide) ?_
  refine va_put (D := D) (ci := 4) (v := .int 0) (ty := .int) (C := RX4) (T := TX4) (N := 4) hx hb hts hin4 tyX4 tyX4_ok nmX4 hown hK.1 hP hD hS 0 rfl rfl 3 (by decide) (hts _ fl_X4_20) (fun _ h9 => h9) rfl (by decide +kernel) rfl rfl (Nat.le_of_ble_eq_true rfl) dX4_init_19 (fun H locs hP hD hS => ?_)
  have hP : va_P D vwCl [(h0, .inr (4, [.null, .null, .ref q0, .int 0])), (q0, .inr (5, [.ref u0, .int 0])), (u0, .inl (cI, (10, .inl (fun _ => 0))))] H := hP
  have hD : va_D A [(h0, .inr (4, [.null, .null, .ref q0, .int 0])), (q0, .inr (5, [.ref u0, .int 0])), (u0, .inl (cI, (10, .inl (fun _ => 0))))] := hD
  refine lv_aload_n hx hb dX4_init_22 rfl (lv_at hl 0 rfl) ?_
  refine lv_aload_n hx hb dX4_init_23 rfl (lv_at hl 1 rfl) ?_
  refine va_putF (D := D) (ci := 4) (v := .ref x1) (ty := .object "TwigsAndStones$Net") (C := RX4) (T := TX4) (N := 4) hx hb hts hin4 tyX4 tyX4_ok nmX4 hown hK.1 hP hD hS 0 rfl rfl 0 (by decide) (hts _ fl_X4_24) (fun _ h9 => h9) rfl hin rfl (by decide +kernel) rfl rfl (Nat.le_of_ble_eq_true rfl) dX4_init_24 (fun H locs hP hD hS => ?_)
  have hP : va_P D vwCl [(h0, .inr (4, [.ref x1, .null, .ref q0, .int 0])), (q0, .inr (5, [.ref u0, .int 0])), (u0, .inl (cI, (10, .inl (fun _ => 0))))] H := hP
  have hD : va_D A [(h0, .inr (4, [.ref x1, .null, .ref q0, .int 0])), (q0, .inr (5, [.ref u0, .int 0])), (u0, .inl (cI, (10, .inl (fun _ => 0))))] := hD
  refine lv_aload_n hx hb dX4_init_27 rfl (lv_at hl 0 rfl) ?_
  refine lv_aload_n hx hb dX4_init_28 rfl (lv_at hl 2 rfl) ?_
  refine va_putF (D := D) (ci := 4) (v := .ref x2) (ty := .object "TwigsAndStones$Walker") (C := RX4) (T := TX4) (N := 4) hx hb hts hin4 tyX4 tyX4_ok nmX4 hown hK.1 hP hD hS 0 rfl rfl 1 (by decide) (hts _ fl_X4_28) (fun _ h9 => h9) rfl hin rfl (by decide +kernel) rfl rfl (Nat.le_of_ble_eq_true rfl) dX4_init_29 (fun H locs hP hD hS => ?_)
  have hP : va_P D vwCl [(h0, .inr (4, [.ref x1, .ref x2, .ref q0, .int 0])), (q0, .inr (5, [.ref u0, .int 0])), (u0, .inl (cI, (10, .inl (fun _ => 0))))] H := hP
  have hD : va_D A [(h0, .inr (4, [.ref x1, .ref x2, .ref q0, .int 0])), (q0, .inr (5, [.ref u0, .int 0])), (u0, .inl (cI, (10, .inl (fun _ => 0))))] := hD
  refine W.widen (k := 2) (n := 12) (Nat.le_of_ble_eq_true rfl) (Nat.le_of_ble_eq_true rfl) ?_
  exact W.vret hx hb hr (fun t ht hW => ⟨⟨adr [q0, u0], rfl, trivial, by rw [ht]; exact hP, hD⟩, hS.F ht⟩) hS.2.2 dX4_init_32

set_option maxHeartbeats 4000000 in
set_option maxRecDepth 100000 in
theorem c_X8_init (l : Launch) (D : va_G) (cI cZ : ClassId) (h0 sz : Nat) (x1 x2 : Nat) : CV l D cI cZ yX8_init wyX8_init ({ frames := 2, cells := 2, slots := 33, locals := 43 } : Room) [.ref h0, .ref x1, .ref x2] [(h0, .inr (8, [.null, .null, .null, .int 0, .int 0]))] sz (fun u : Nat → Nat => [(h0, .inr (8, [.ref x1, .ref x2, .ref (u 0), .int 0, .int 0])), ((u 0), .inr (5, [.ref (u 1), .int 0])), ((u 1), .inl (cI, (31, .inl (fun _ => 0))))]) 2 33 := by
  refine Met.ofW (cc := cX8_init) (maxL := 3) (ret := none) (by decide) rfl ?_
  intro p e s m args below meth c s₁ B hml hv
  obtain ⟨rfl, hsz, hK, hP, hD0⟩ := hv
  have hx := B.exec
  have hb := B.bytes
  have hr := B.returns
  have hts0 := atoms_spec (ws := wyX8_init) B.pre
  have hts : ∀ w ∈ big, w.before _ s = true := fun w h => hts0 w (List.mem_cons_of_mem _ h)
  have hown : s.vm.findClass RX8 = some m.cls := findClass_of_methodNamed B.named
  have hlocks := B.notSynchronized
  have hin : meth.name = "<init>" := (name_of_methodNamed B.named B.method).1
  subst hsz
  have hD := hD0.self (sz := s.heap.size)
  generalize hAe : va_A [(h0, .inr (8, [.null, .null, .null, .int 0, .int 0]))] s.heap.size = A at hD ⊢
  have hA : ∀ q : Nat, s.heap.size ≤ q → A q := fun q h => by rw [← hAe]; exact Or.inr h
  have hS : va_S A s.heap s.heap [] := va_S.rf
  have hl := lv_entry ([.ref h0, .ref x1, .ref x2]) (n := 3) (Nat.le_of_ble_eq_true rfl)
  rw [lg_entry_eq]
  generalize (lg_sl ([.ref h0, .ref x1, .ref x2]) ++ List.replicate (3 - (lg_sl ([.ref h0, .ref x1, .ref x2])).length) Slot.unset).toArray = ls at hl ⊢
  have hl : lv_has ls 3 [(0, .ref h0), (1, .ref x1), (2, .ref x2)] := hl
  refine lv_aload_n hx hb dX8_init_0 rfl (lv_at hl 0 rfl) ?_
  refine W.objInit hx hb hown (hts _ ml_X8_3) (hts _ kx_oi) (hts _ kx_oc) rfl (by rw [hml]; exact hl.1) rfl dX8_init_1 (Nat.le_of_ble_eq_true rfl) (Nat.le_of_ble_eq_true rfl) ?_
  refine W.eq (g2 := F0 m 4 ls []) rfl ?_
  refine lv_aload_n hx hb dX8_init_4 rfl (lv_at hl 0 rfl) ?_
  refine va_new (ci := 5) (fs := [.null, .int 0]) (C := RX5) (T := TX5) (N := 2) hx hb hts hin5 tyX5 tyX5_ok hown (hts _ kx_classLink_RX8_9_RX5) (hts _ kx_instantiable_RX5_2) (hts _ kx_initialized_RX5) hK.1 hP hD hS hA rfl (fun j hj => by rcases (show j = 0 ∨ j = 1 by omega) with rfl | rfl <;> rfl) (Nat.le_of_ble_eq_true rfl) (Nat.le_of_ble_eq_true rfl) dX8_init_5 (fun q0 H hP hD hS => ?_)
  have hP : va_P D vwCl [(h0, .inr (8, [.null, .null, .null, .int 0, .int 0])), (q0, .inr (5, [.null, .int 0]))] H := hP
  have hD : va_D A [(h0, .inr (8, [.null, .null, .null, .int 0, .int 0])), (q0, .inr (5, [.null, .int 0]))] := hD
  refine W.widen (k := 1) (n := 2) (Nat.le_of_ble_eq_true rfl) (Nat.le_of_ble_eq_true rfl) ?_
  refine lv_dup hx hb dX8_init_8 rfl ?_
  refine lv_bipush (v := 31) hx hb dX8_init_9 (by decide) ?_
  have hPc := hP.sub (ws' := [(q0, .inr (5, [.null, .int 0]))]) [1] rfl
  have hDc := hD.sub (ws' := [(q0, .inr (5, [.null, .int 0]))]) [1] (by decide) rfl
  have hFc := va_free (wc := [(q0, .inr (5, [.null, .int 0]))]) hD hS hA [1] rfl
  refine va_callv (va_runI (As := [.int (nI 31)]) (rest := [.ref q0, .ref h0]) ⟨hx, hb, hml, hown, hts⟩ (c_X5_init l D cI cZ q0 H.size 31 (by decide)) (cw_X8_13 hts rfl rfl ⟨Nat.le_of_ble_eq_true rfl, Nat.le_of_ble_eq_true rfl⟩) (cv_pre hK hPc (hDc.weaken (fun _ _ _ _ => trivial))) rfl rfl hl.1 rfl (lv_room (Nat.le_of_ble_eq_true rfl)) dX8_init_11 ⟨Nat.le_of_ble_eq_true rfl, Nat.le_of_ble_eq_true rfl⟩) hS (fun q _ h => hFc q h) hFc (fun u0 t H1 locs ht hvm hw hB hz1 hk1 hS => ?_)
  obtain ⟨hP1, hD1⟩ := hB
  rw [ht] at hP1
  obtain ⟨hP, hD⟩ := va_join (wr := [(h0, .inr (8, [.null, .null, .null, .int 0, .int 0]))]) (w1 := [(q0, .inr (5, [.ref u0, .int 0])), (u0, .inl (cI, (31, .inl (fun _ => 0))))]) hP hD [1] [0] rfl rfl (by decide) (by decide) hk1 hFc hP1 hD1
  generalize H1 = H at hP hS ⊢
  have hP : va_P D vwCl [(h0, .inr (8, [.null, .null, .null, .int 0, .int 0])), (q0, .inr (5, [.ref u0, .int 0])), (u0, .inl (cI, (31, .inl (fun _ => 0))))] H := hP
  have hD : va_D A [(h0, .inr (8, [.null, .null, .null, .int 0, .int 0])), (q0, .inr (5, [.ref u0, .int 0])), (u0, .inl (cI, (31, .inl (fun _ => 0))))] := hD
  refine W.widen (k := 2) (n := 33) (Nat.le_of_ble_eq_true rfl) (Nat.le_of_ble_eq_true rfl) ?_
  clear hPc hDc hFc hP1 hD1 hk1 hz1 hw
  refine va_putF (D := D) (ci := 8) (v := .ref q0) (ty := .object "TwigsAndStones$Row") (C := RX8) (T := TX8) (N := 5) hx hb hts hin8 tyX8 tyX8_ok nmX8 hown hK.1 hP hD hS 0 rfl rfl 2 (by decide) (hts _ fl_X8_16) (fun _ h9 => h9) rfl hin rfl (by decide +kernel) rfl rfl (Nat.le_of_ble_eq_true rfl) dX8_init_14 (fun H locs hP hD hS => ?_)
  have hP : va_P D vwCl [(h0, .inr (8, [.null, .null, .ref q0, .int 0, .int 0])), (q0, .inr (5, [.ref u0, .int 0])), (u0, .inl (cI, (31, .inl (fun _ => 0))))] H := hP
  have hD : va_D A [(h0, .inr (8, [.null, .null, .ref q0, .int 0, .int 0])), (q0, .inr (5, [.ref u0, .int 0])), (u0, .inl (cI, (31, .inl (fun _ => 0))))] := hD
  refine lv_aload_n hx hb dX8_init_17 rfl (lv_at hl 0 rfl) ?_
  refine lv_iconst (v := 0) hx hb dX8_init_18 (by decide) ?_
  refine va_put (D := D) (ci := 8) (v := .int 0) (ty := .int) (C := RX8) (T := TX8) (N := 5) hx hb hts hin8 tyX8 tyX8_ok nmX8 hown hK.1 hP hD hS 0 rfl rfl 3 (by decide) (hts _ fl_X8_20) (fun _ h9 => h9) rfl (by decide +kernel) rfl rfl (Nat.le_of_ble_eq_true rfl) dX8_init_19 (fun H locs hP hD hS => ?_)
  have hP : va_P D vwCl [(h0, .inr (8, [.null, .null, .ref q0, .int 0, .int 0])), (q0, .inr (5, [.ref u0, .int 0])), (u0, .inl (cI, (31, .inl (fun _ => 0))))] H := hP
  have hD : va_D A [(h0, .inr (8, [.null, .null, .ref q0, .int 0, .int 0])), (q0, .inr (5, [.ref u0, .int 0])), (u0, .inl (cI, (31, .inl (fun _ => 0))))] := hD
  refine lv_aload_n hx hb dX8_init_22 rfl (lv_at hl 0 rfl) ?_
  refine lv_iconst (v := 0) hx hb dX8_init_23 (by decide) ?_
  refine va_put (D := D) (ci := 8) (v := .int 0) (ty := .int) (C := RX8) (T := TX8) (N := 5) hx hb hts hin8 tyX8 tyX8_ok nmX8 hown hK.1 hP hD hS 0 rfl rfl 4 (by decide) (hts _ fl_X8_24) (fun _ h9 => h9) rfl (by decide +kernel) rfl rfl (Nat.le_of_ble_eq_true rfl) dX8_init_24 (fun H locs hP hD hS => ?_)
  have hP : va_P D vwCl [(h0, .inr (8, [.null, .null, .ref q0, .int 0, .int 0])), (q0, .inr (5, [.ref u0, .int 0])), (u0, .inl (cI, (31, .inl (fun _ => 0))))] H := hP
  have hD : va_D A [(h0, .inr (8, [.null, .null, .ref q0, .int 0, .int 0])), (q0, .inr (5, [.ref u0, .int 0])), (u0, .inl (cI, (31, .inl (fun _ => 0))))] := hD
  refine lv_aload_n hx hb dX8_init_27 rfl (lv_at hl 0 rfl) ?_
  refine lv_aload_n hx hb dX8_init_28 rfl (lv_at hl 1 rfl) ?_
  refine va_putF (D := D) (ci := 8) (v := .ref x1) (ty := .object "TwigsAndStones$Net") (C := RX8) (T := TX8) (N := 5) hx hb hts hin8 tyX8 tyX8_ok nmX8 hown hK.1 hP hD hS 0 rfl rfl 0 (by decide) (hts _ fl_X8_27) (fun _ h9 => h9) rfl hin rfl (by decide +kernel) rfl rfl (Nat.le_of_ble_eq_true rfl) dX8_init_29 (fun H locs hP hD hS => ?_)
  have hP : va_P D vwCl [(h0, .inr (8, [.ref x1, .null, .ref q0, .int 0, .int 0])), (q0, .inr (5, [.ref u0, .int 0])), (u0, .inl (cI, (31, .inl (fun _ => 0))))] H := hP
  have hD : va_D A [(h0, .inr (8, [.ref x1, .null, .ref q0, .int 0, .int 0])), (q0, .inr (5, [.ref u0, .int 0])), (u0, .inl (cI, (31, .inl (fun _ => 0))))] := hD
  refine lv_aload_n hx hb dX8_init_32 rfl (lv_at hl 0 rfl) ?_
  refine lv_aload_n hx hb dX8_init_33 rfl (lv_at hl 2 rfl) ?_
  refine va_putF (D := D) (ci := 8) (v := .ref x2) (ty := .object "TwigsAndStones$Signs") (C := RX8) (T := TX8) (N := 5) hx hb hts hin8 tyX8 tyX8_ok nmX8 hown hK.1 hP hD hS 0 rfl rfl 1 (by decide) (hts _ fl_X8_31) (fun _ h9 => h9) rfl hin rfl (by decide +kernel) rfl rfl (Nat.le_of_ble_eq_true rfl) dX8_init_34 (fun H locs hP hD hS => ?_)
  have hP : va_P D vwCl [(h0, .inr (8, [.ref x1, .ref x2, .ref q0, .int 0, .int 0])), (q0, .inr (5, [.ref u0, .int 0])), (u0, .inl (cI, (31, .inl (fun _ => 0))))] H := hP
  have hD : va_D A [(h0, .inr (8, [.ref x1, .ref x2, .ref q0, .int 0, .int 0])), (q0, .inr (5, [.ref u0, .int 0])), (u0, .inl (cI, (31, .inl (fun _ => 0))))] := hD
  refine W.widen (k := 2) (n := 33) (Nat.le_of_ble_eq_true rfl) (Nat.le_of_ble_eq_true rfl) ?_
  exact W.vret hx hb hr (fun t ht hW => ⟨⟨adr [q0, u0], rfl, trivial, by rw [ht]; exact hP, hD⟩, hS.F ht⟩) hS.2.2 dX8_init_37

set_option maxHeartbeats 4000000 in
set_option maxRecDepth 100000 in
theorem c_X7_init (l : Launch) (D : va_G) (cI cZ : ClassId) (h0 sz : Nat) (x1 x2 : Nat) : CV l D cI cZ yX7_init wyX7_init ({ frames := 2, cells := 6, slots := 54, locals := 43 } : Room) [.ref h0, .ref x1, .ref x2] [(h0, .inr (7, [.null, .null, .null, .null, .null, .int 0]))] sz (fun u : Nat → Nat => [(h0, .inr (7, [.ref x1, .ref x2, .ref (u 0), .ref (u 2), .ref (u 4), .int 12])), ((u 0), .inr (5, [.ref (u 1), .int (nI 36)])), ((u 1), .inl (cI, (36, .inl (fun _ => 0)))), ((u 2), .inr (5, [.ref (u 3), .int 0])), ((u 3), .inl (cI, (6, .inl (fun _ => 0)))), ((u 4), .inr (5, [.ref (u 5), .int 0])), ((u 5), .inl (cI, (6, .inl (fun _ => 0))))]) 6 54 := by
  refine Met.ofW (cc := cX7_init) (maxL := 3) (ret := none) (by decide) rfl ?_
  intro p e s m args below meth c s₁ B hml hv
  obtain ⟨rfl, hsz, hK, hP, hD0⟩ := hv
  have hx := B.exec
  have hb := B.bytes
  have hr := B.returns
  have hts0 := atoms_spec (ws := wyX7_init) B.pre
  have hts : ∀ w ∈ big, w.before _ s = true := fun w h => hts0 w (List.mem_cons_of_mem _ h)
  have hown : s.vm.findClass RX7 = some m.cls := findClass_of_methodNamed B.named
  have hlocks := B.notSynchronized
  have hin : meth.name = "<init>" := (name_of_methodNamed B.named B.method).1
  subst hsz
  have hD := hD0.self (sz := s.heap.size)
  generalize hAe : va_A [(h0, .inr (7, [.null, .null, .null, .null, .null, .int 0]))] s.heap.size = A at hD ⊢
  have hA : ∀ q : Nat, s.heap.size ≤ q → A q := fun q h => by rw [← hAe]; exact Or.inr h
  have hS : va_S A s.heap s.heap [] := va_S.rf
  have hl := lv_entry ([.ref h0, .ref x1, .ref x2]) (n := 3) (Nat.le_of_ble_eq_true rfl)
  rw [lg_entry_eq]
  generalize (lg_sl ([.ref h0, .ref x1, .ref x2]) ++ List.replicate (3 - (lg_sl ([.ref h0, .ref x1, .ref x2])).length) Slot.unset).toArray = ls at hl ⊢
  have hl : lv_has ls 3 [(0, .ref h0), (1, .ref x1), (2, .ref x2)] := hl
  refine lv_aload_n hx hb dX7_init_0 rfl (lv_at hl 0 rfl) ?_
  refine W.objInit hx hb hown (hts _ ml_X7_3) (hts _ kx_oi) (hts _ kx_oc) rfl (by rw [hml]; exact hl.1) rfl dX7_init_1 (Nat.le_of_ble_eq_true rfl) (Nat.le_of_ble_eq_true rfl) ?_
  refine W.eq (g2 := F0 m 4 ls []) rfl ?_
  refine lv_aload_n hx hb dX7_init_4 rfl (lv_at hl 0 rfl) ?_
  refine va_new (ci := 5) (fs := [.null, .int 0]) (C := RX5) (T := TX5) (N := 2) hx hb hts hin5 tyX5 tyX5_ok hown (hts _ kx_classLink_RX7_9_RX5) (hts _ kx_instantiable_RX5_2) (hts _ kx_initialized_RX5) hK.1 hP hD hS hA rfl (fun j hj => by rcases (show j = 0 ∨ j = 1 by omega) with rfl | rfl <;> rfl) (Nat.le_of_ble_eq_true rfl) (Nat.le_of_ble_eq_true rfl) dX7_init_5 (fun q0 H hP hD hS => ?_)
  have hP : va_P D vwCl [(h0, .inr (7, [.null, .null, .null, .null, .null, .int 0])), (q0, .inr (5, [.null, .int 0]))] H := hP
  have hD : va_D A [(h0, .inr (7, [.null, .null, .null, .null, .null, .int 0])), (q0, .inr (5, [.null, .int 0]))] := hD
  refine W.widen (k := 1) (n := 2) (Nat.le_of_ble_eq_true rfl) (Nat.le_of_ble_eq_true rfl) ?_
  refine lv_dup hx hb dX7_init_8 rfl ?_
  refine lv_bipush (v := 36) hx hb dX7_init_9 (by decide) ?_
  have hPc := hP.sub (ws' := [(q0, .inr (5, [.null, .int 0]))]) [1] rfl
  have hDc := hD.sub (ws' := [(q0, .inr (5, [.null, .int 0]))]) [1] (by decide) rfl
  have hFc := va_free (wc := [(q0, .inr (5, [.null, .int 0]))]) hD hS hA [1] rfl
  refine va_callv (va_runI (As := [.int (nI 36)]) (rest := [.ref q0, .ref h0]) ⟨hx, hb, hml, hown, hts⟩ (c_X5_init l D cI cZ q0 H.size 36 (by decide)) (cw_X7_13 hts rfl rfl ⟨Nat.le_of_ble_eq_true rfl, Nat.le_of_ble_eq_true rfl⟩) (cv_pre hK hPc (hDc.weaken (fun _ _ _ _ => trivial))) rfl rfl hl.1 rfl (lv_room (Nat.le_of_ble_eq_true rfl)) dX7_init_11 ⟨Nat.le_of_ble_eq_true rfl, Nat.le_of_ble_eq_true rfl⟩) hS (fun q _ h => hFc q h) hFc (fun u0 t H1 locs ht hvm hw hB hz1 hk1 hS => ?_)
  obtain ⟨hP1, hD1⟩ := hB
  rw [ht] at hP1
  obtain ⟨hP, hD⟩ := va_join (wr := [(h0, .inr (7, [.null, .null, .null, .null, .null, .int 0]))]) (w1 := [(q0, .inr (5, [.ref u0, .int 0])), (u0, .inl (cI, (36, .inl (fun _ => 0))))]) hP hD [1] [0] rfl rfl (by decide) (by decide) hk1 hFc hP1 hD1
  generalize H1 = H at hP hS ⊢
  have hP : va_P D vwCl [(h0, .inr (7, [.null, .null, .null, .null, .null, .int 0])), (q0, .inr (5, [.ref u0, .int 0])), (u0, .inl (cI, (36, .inl (fun _ => 0))))] H := hP
  have hD : va_D A [(h0, .inr (7, [.null, .null, .null, .null, .null, .int 0])), (q0, .inr (5, [.ref u0, .int 0])), (u0, .inl (cI, (36, .inl (fun _ => 0))))] := hD
  refine W.widen (k := 2) (n := 38) (Nat.le_of_ble_eq_true rfl) (Nat.le_of_ble_eq_true rfl) ?_
  clear hPc hDc hFc hP1 hD1 hk1 hz1 hw
  have hPc := hP.sub (ws' := [(q0, .inr (5, [.ref u0, .int 0])), (u0, .inl (cI, (36, .inl (fun _ => 0))))]) [1, 2] rfl
  have hDc := hD.sub (ws' := [(q0, .inr (5, [.ref u0, .int 0])), (u0, .inl (cI, (36, .inl (fun _ => 0))))]) [1, 2] (by decide) rfl
  have hFc := va_free (wc := [(q0, .inr (5, [.ref u0, .int 0])), (u0, .inl (cI, (36, .inl (fun _ => 0))))]) hD hS hA [1, 2] rfl
  have hpre := cv_pre hK hPc (av := [.ref q0]) (hDc.weaken (fun _ _ _ _ => trivial))
  refine va_callr (va_runV (As := []) (rest := [.ref h0]) ⟨hx, hb, hml, hown, hts⟩ (c_X5_filled l D cI cZ q0 u0 H.size 36 (fun _ => 0)) (cw_X7_16 hts rfl rfl ⟨Nat.le_of_ble_eq_true rfl, Nat.le_of_ble_eq_true rfl⟩) ⟨hpre.1, va_recv hK.1 hPc (show vwCl[5]? = some (RX5, TX5, 2) from rfl) (show ([(q0, .inr (5, [.ref u0, .int 0])), (u0, .inl (cI, (36, .inl (fun _ => 0))))] : va_W)[0]? = some (q0, .inr (5, [.ref u0, .int 0])) from rfl), hpre.2⟩ rfl rfl hl.1 rfl (lv_room (Nat.le_of_ble_eq_true rfl)) dX7_init_14 ⟨Nat.le_of_ble_eq_true rfl, Nat.le_of_ble_eq_true rfl⟩) hS (fun q _ h => hFc q h) hFc (fun _ ra t H1 locs ht hvm hw hB hz1 hk1 hS => ?_)
  obtain ⟨e9, hP1, hD1⟩ := hB
  rw [ht] at hP1
  rw [e9]
  obtain ⟨hP, hD⟩ := va_join (wr := [(h0, .inr (7, [.null, .null, .null, .null, .null, .int 0]))]) (w1 := [(q0, .inr (5, [.ref u0, .int (nI 36)])), (u0, .inl (cI, (36, .inl (fun _ => 0))))]) hP hD [1, 2] [0] rfl rfl (by decide) (by decide) hk1 hFc hP1 hD1
  generalize H1 = H at hP hS ⊢
  have hP : va_P D vwCl [(h0, .inr (7, [.null, .null, .null, .null, .null, .int 0])), (q0, .inr (5, [.ref u0, .int (nI 36)])), (u0, .inl (cI, (36, .inl (fun _ => 0))))] H := hP
  have hD : va_D A [(h0, .inr (7, [.null, .null, .null, .null, .null, .int 0])), (q0, .inr (5, [.ref u0, .int (nI 36)])), (u0, .inl (cI, (36, .inl (fun _ => 0))))] := hD
  refine W.widen (k := 2) (n := 38) (Nat.le_of_ble_eq_true rfl) (Nat.le_of_ble_eq_true rfl) ?_
  clear hPc hDc hFc hP1 hD1 hk1 hz1 hw e9 hpre
  refine va_putF (D := D) (ci := 7) (v := .ref q0) (ty := .object "TwigsAndStones$Row") (C := RX7) (T := TX7) (N := 6) hx hb hts hin7 tyX7 tyX7_ok nmX7 hown hK.1 hP hD hS 0 rfl rfl 2 (by decide) (hts _ fl_X7_20) (fun _ h9 => h9) rfl hin rfl (by decide +kernel) rfl rfl (Nat.le_of_ble_eq_true rfl) dX7_init_17 (fun H locs hP hD hS => ?_)
  have hP : va_P D vwCl [(h0, .inr (7, [.null, .null, .ref q0, .null, .null, .int 0])), (q0, .inr (5, [.ref u0, .int (nI 36)])), (u0, .inl (cI, (36, .inl (fun _ => 0))))] H := hP
  have hD : va_D A [(h0, .inr (7, [.null, .null, .ref q0, .null, .null, .int 0])), (q0, .inr (5, [.ref u0, .int (nI 36)])), (u0, .inl (cI, (36, .inl (fun _ => 0))))] := hD
  refine lv_aload_n hx hb dX7_init_20 rfl (lv_at hl 0 rfl) ?_
  refine va_new (ci := 5) (fs := [.null, .int 0]) (C := RX5) (T := TX5) (N := 2) hx hb hts hin5 tyX5 tyX5_ok hown (hts _ kx_classLink_RX7_9_RX5) (hts _ kx_instantiable_RX5_2) (hts _ kx_initialized_RX5) hK.1 hP hD hS hA rfl (fun j hj => by rcases (show j = 0 ∨ j = 1 by omega) with rfl | rfl <;> rfl) (Nat.le_of_ble_eq_true rfl) (Nat.le_of_ble_eq_true rfl) dX7_init_21 (fun q1 H hP hD hS => ?_)
  have hP : va_P D vwCl [(h0, .inr (7, [.null, .null, .ref q0, .null, .null, .int 0])), (q0, .inr (5, [.ref u0, .int (nI 36)])), (u0, .inl (cI, (36, .inl (fun _ => 0)))), (q1, .inr (5, [.null, .int 0]))] H := hP
  have hD : va_D A [(h0, .inr (7, [.null, .null, .ref q0, .null, .null, .int 0])), (q0, .inr (5, [.ref u0, .int (nI 36)])), (u0, .inl (cI, (36, .inl (fun _ => 0)))), (q1, .inr (5, [.null, .int 0]))] := hD
  refine W.widen (k := 3) (n := 40) (Nat.le_of_ble_eq_true rfl) (Nat.le_of_ble_eq_true rfl) ?_
  refine lv_dup hx hb dX7_init_24 rfl ?_
  refine lv_bipush (v := 6) hx hb dX7_init_25 (by decide) ?_
  have hPc := hP.sub (ws' := [(q1, .inr (5, [.null, .int 0]))]) [3] rfl
  have hDc := hD.sub (ws' := [(q1, .inr (5, [.null, .int 0]))]) [3] (by decide) rfl
  have hFc := va_free (wc := [(q1, .inr (5, [.null, .int 0]))]) hD hS hA [3] rfl
  refine va_callv (va_runI (As := [.int (nI 6)]) (rest := [.ref q1, .ref h0]) ⟨hx, hb, hml, hown, hts⟩ (c_X5_init l D cI cZ q1 H.size 6 (by decide)) (cw_X7_13 hts rfl rfl ⟨Nat.le_of_ble_eq_true rfl, Nat.le_of_ble_eq_true rfl⟩) (cv_pre hK hPc (hDc.weaken (fun _ _ _ _ => trivial))) rfl rfl hl.1 rfl (lv_room (Nat.le_of_ble_eq_true rfl)) dX7_init_27 ⟨Nat.le_of_ble_eq_true rfl, Nat.le_of_ble_eq_true rfl⟩) hS (fun q _ h => hFc q h) hFc (fun u1 t H1 locs ht hvm hw hB hz1 hk1 hS => ?_)
  obtain ⟨hP1, hD1⟩ := hB
  rw [ht] at hP1
  obtain ⟨hP, hD⟩ := va_join (wr := [(h0, .inr (7, [.null, .null, .ref q0, .null, .null, .int 0])), (q0, .inr (5, [.ref u0, .int (nI 36)])), (u0, .inl (cI, (36, .inl (fun _ => 0))))]) (w1 := [(q1, .inr (5, [.ref u1, .int 0])), (u1, .inl (cI, (6, .inl (fun _ => 0))))]) hP hD [3] [0, 1, 2] rfl rfl (by decide) (by decide) hk1 hFc hP1 hD1
  generalize H1 = H at hP hS ⊢
  have hP : va_P D vwCl [(h0, .inr (7, [.null, .null, .ref q0, .null, .null, .int 0])), (q0, .inr (5, [.ref u0, .int (nI 36)])), (u0, .inl (cI, (36, .inl (fun _ => 0)))), (q1, .inr (5, [.ref u1, .int 0])), (u1, .inl (cI, (6, .inl (fun _ => 0))))] H := hP
  have hD : va_D A [(h0, .inr (7, [.null, .null, .ref q0, .null, .null, .int 0])), (q0, .inr (5, [.ref u0, .int (nI 36)])), (u0, .inl (cI, (36, .inl (fun _ => 0)))), (q1, .inr (5, [.ref u1, .int 0])), (u1, .inl (cI, (6, .inl (fun _ => 0))))] := hD
  refine W.widen (k := 4) (n := 46) (Nat.le_of_ble_eq_true rfl) (Nat.le_of_ble_eq_true rfl) ?_
  clear hPc hDc hFc hP1 hD1 hk1 hz1 hw
  refine va_putF (D := D) (ci := 7) (v := .ref q1) (ty := .object "TwigsAndStones$Row") (C := RX7) (T := TX7) (N := 6) hx hb hts hin7 tyX7 tyX7_ok nmX7 hown hK.1 hP hD hS 0 rfl rfl 3 (by decide) (hts _ fl_X7_24) (fun _ h9 => h9) rfl hin rfl (by decide +kernel) rfl rfl (Nat.le_of_ble_eq_true rfl) dX7_init_30 (fun H locs hP hD hS => ?_)
  have hP : va_P D vwCl [(h0, .inr (7, [.null, .null, .ref q0, .ref q1, .null, .int 0])), (q0, .inr (5, [.ref u0, .int (nI 36)])), (u0, .inl (cI, (36, .inl (fun _ => 0)))), (q1, .inr (5, [.ref u1, .int 0])), (u1, .inl (cI, (6, .inl (fun _ => 0))))] H := hP
  have hD : va_D A [(h0, .inr (7, [.null, .null, .ref q0, .ref q1, .null, .int 0])), (q0, .inr (5, [.ref u0, .int (nI 36)])), (u0, .inl (cI, (36, .inl (fun _ => 0)))), (q1, .inr (5, [.ref u1, .int 0])), (u1, .inl (cI, (6, .inl (fun _ => 0))))] := hD
  refine lv_aload_n hx hb dX7_init_33 rfl (lv_at hl 0 rfl) ?_
  refine va_new (ci := 5) (fs := [.null, .int 0]) (C := RX5) (T := TX5) (N := 2) hx hb hts hin5 tyX5 tyX5_ok hown (hts _ kx_classLink_RX7_9_RX5) (hts _ kx_instantiable_RX5_2) (hts _ kx_initialized_RX5) hK.1 hP hD hS hA rfl (fun j hj => by rcases (show j = 0 ∨ j = 1 by omega) with rfl | rfl <;> rfl) (Nat.le_of_ble_eq_true rfl) (Nat.le_of_ble_eq_true rfl) dX7_init_34 (fun q2 H hP hD hS => ?_)
  have hP : va_P D vwCl [(h0, .inr (7, [.null, .null, .ref q0, .ref q1, .null, .int 0])), (q0, .inr (5, [.ref u0, .int (nI 36)])), (u0, .inl (cI, (36, .inl (fun _ => 0)))), (q1, .inr (5, [.ref u1, .int 0])), (u1, .inl (cI, (6, .inl (fun _ => 0)))), (q2, .inr (5, [.null, .int 0]))] H := hP
  have hD : va_D A [(h0, .inr (7, [.null, .null, .ref q0, .ref q1, .null, .int 0])), (q0, .inr (5, [.ref u0, .int (nI 36)])), (u0, .inl (cI, (36, .inl (fun _ => 0)))), (q1, .inr (5, [.ref u1, .int 0])), (u1, .inl (cI, (6, .inl (fun _ => 0)))), (q2, .inr (5, [.null, .int 0]))] := hD
  refine W.widen (k := 5) (n := 48) (Nat.le_of_ble_eq_true rfl) (Nat.le_of_ble_eq_true rfl) ?_
  refine lv_dup hx hb dX7_init_37 rfl ?_
  refine lv_bipush (v := 6) hx hb dX7_init_38 (by decide) ?_
  have hPc := hP.sub (ws' := [(q2, .inr (5, [.null, .int 0]))]) [5] rfl
  have hDc := hD.sub (ws' := [(q2, .inr (5, [.null, .int 0]))]) [5] (by decide) rfl
  have hFc := va_free (wc := [(q2, .inr (5, [.null, .int 0]))]) hD hS hA [5] rfl
  refine va_callv (va_runI (As := [.int (nI 6)]) (rest := [.ref q2, .ref h0]) ⟨hx, hb, hml, hown, hts⟩ (c_X5_init l D cI cZ q2 H.size 6 (by decide)) (cw_X7_13 hts rfl rfl ⟨Nat.le_of_ble_eq_true rfl, Nat.le_of_ble_eq_true rfl⟩) (cv_pre hK hPc (hDc.weaken (fun _ _ _ _ => trivial))) rfl rfl hl.1 rfl (lv_room (Nat.le_of_ble_eq_true rfl)) dX7_init_40 ⟨Nat.le_of_ble_eq_true rfl, Nat.le_of_ble_eq_true rfl⟩) hS (fun q _ h => hFc q h) hFc (fun u2 t H1 locs ht hvm hw hB hz1 hk1 hS => ?_)
  obtain ⟨hP1, hD1⟩ := hB
  rw [ht] at hP1
  obtain ⟨hP, hD⟩ := va_join (wr := [(h0, .inr (7, [.null, .null, .ref q0, .ref q1, .null, .int 0])), (q0, .inr (5, [.ref u0, .int (nI 36)])), (u0, .inl (cI, (36, .inl (fun _ => 0)))), (q1, .inr (5, [.ref u1, .int 0])), (u1, .inl (cI, (6, .inl (fun _ => 0))))]) (w1 := [(q2, .inr (5, [.ref u2, .int 0])), (u2, .inl (cI, (6, .inl (fun _ => 0))))]) hP hD [5] [0, 1, 2, 3, 4] rfl rfl (by decide) (by decide) hk1 hFc hP1 hD1
  generalize H1 = H at hP hS ⊢
  have hP : va_P D vwCl [(h0, .inr (7, [.null, .null, .ref q0, .ref q1, .null, .int 0])), (q0, .inr (5, [.ref u0, .int (nI 36)])), (u0, .inl (cI, (36, .inl (fun _ => 0)))), (q1, .inr (5, [.ref u1, .int 0])), (u1, .inl (cI, (6, .inl (fun _ => 0)))), (q2, .inr (5, [.ref u2, .int 0])), (u2, .inl (cI, (6, .inl (fun _ => 0))))] H := hP
  have hD : va_D A [(h0, .inr (7, [.null, .null, .ref q0, .ref q1, .null, .int 0])), (q0, .inr (5, [.ref u0, .int (nI 36)])), (u0, .inl (cI, (36, .inl (fun _ => 0)))), (q1, .inr (5, [.ref u1, .int 0])), (u1, .inl (cI, (6, .inl (fun _ => 0)))), (q2, .inr (5, [.ref u2, .int 0])), (u2, .inl (cI, (6, .inl (fun _ => 0))))] := hD
  refine W.widen (k := 6) (n := 54) (Nat.le_of_ble_eq_true rfl) (Nat.le_of_ble_eq_true rfl) ?_
  clear hPc hDc hFc hP1 hD1 hk1 hz1 hw
  refine va_putF (D := D) (ci := 7) (v := .ref q2) (ty := .object "TwigsAndStones$Row") (C := RX7) (T := TX7) (N := 6) hx hb hts hin7 tyX7 tyX7_ok nmX7 hown hK.1 hP hD hS 0 rfl rfl 4 (by decide) (hts _ fl_X7_27) (fun _ h9 => h9) rfl hin rfl (by decide +kernel) rfl rfl (Nat.le_of_ble_eq_true rfl) dX7_init_43 (fun H locs hP hD hS => ?_)
  have hP : va_P D vwCl [(h0, .inr (7, [.null, .null, .ref q0, .ref q1, .ref q2, .int 0])), (q0, .inr (5, [.ref u0, .int (nI 36)])), (u0, .inl (cI, (36, .inl (fun _ => 0)))), (q1, .inr (5, [.ref u1, .int 0])), (u1, .inl (cI, (6, .inl (fun _ => 0)))), (q2, .inr (5, [.ref u2, .int 0])), (u2, .inl (cI, (6, .inl (fun _ => 0))))] H := hP
  have hD : va_D A [(h0, .inr (7, [.null, .null, .ref q0, .ref q1, .ref q2, .int 0])), (q0, .inr (5, [.ref u0, .int (nI 36)])), (u0, .inl (cI, (36, .inl (fun _ => 0)))), (q1, .inr (5, [.ref u1, .int 0])), (u1, .inl (cI, (6, .inl (fun _ => 0)))), (q2, .inr (5, [.ref u2, .int 0])), (u2, .inl (cI, (6, .inl (fun _ => 0))))] := hD
  refine lv_aload_n hx hb dX7_init_46 rfl (lv_at hl 0 rfl) ?_
  refine lv_bipush (v := 12) hx hb dX7_init_47 (by decide) ?_
  refine va_put (D := D) (ci := 7) (v := .int 12) (ty := .int) (C := RX7) (T := TX7) (N := 6) hx hb hts hin7 tyX7 tyX7_ok nmX7 hown hK.1 hP hD hS 0 rfl rfl 5 (by decide) (hts _ fl_X7_30) (fun _ h9 => h9) rfl (by decide +kernel) rfl rfl (Nat.le_of_ble_eq_true rfl) dX7_init_49 (fun H locs hP hD hS => ?_)
  have hP : va_P D vwCl [(h0, .inr (7, [.null, .null, .ref q0, .ref q1, .ref q2, .int 12])), (q0, .inr (5, [.ref u0, .int (nI 36)])), (u0, .inl (cI, (36, .inl (fun _ => 0)))), (q1, .inr (5, [.ref u1, .int 0])), (u1, .inl (cI, (6, .inl (fun _ => 0)))), (q2, .inr (5, [.ref u2, .int 0])), (u2, .inl (cI, (6, .inl (fun _ => 0))))] H := hP
  have hD : va_D A [(h0, .inr (7, [.null, .null, .ref q0, .ref q1, .ref q2, .int 12])), (q0, .inr (5, [.ref u0, .int (nI 36)])), (u0, .inl (cI, (36, .inl (fun _ => 0)))), (q1, .inr (5, [.ref u1, .int 0])), (u1, .inl (cI, (6, .inl (fun _ => 0)))), (q2, .inr (5, [.ref u2, .int 0])), (u2, .inl (cI, (6, .inl (fun _ => 0))))] := hD
  refine lv_aload_n hx hb dX7_init_52 rfl (lv_at hl 0 rfl) ?_
  refine lv_aload_n hx hb dX7_init_53 rfl (lv_at hl 1 rfl) ?_
  refine va_putF (D := D) (ci := 7) (v := .ref x1) (ty := .object "TwigsAndStones$Net") (C := RX7) (T := TX7) (N := 6) hx hb hts hin7 tyX7 tyX7_ok nmX7 hown hK.1 hP hD hS 0 rfl rfl 0 (by decide) (hts _ fl_X7_34) (fun _ h9 => h9) rfl hin rfl (by decide +kernel) rfl rfl (Nat.le_of_ble_eq_true rfl) dX7_init_54 (fun H locs hP hD hS => ?_)
  have hP : va_P D vwCl [(h0, .inr (7, [.ref x1, .null, .ref q0, .ref q1, .ref q2, .int 12])), (q0, .inr (5, [.ref u0, .int (nI 36)])), (u0, .inl (cI, (36, .inl (fun _ => 0)))), (q1, .inr (5, [.ref u1, .int 0])), (u1, .inl (cI, (6, .inl (fun _ => 0)))), (q2, .inr (5, [.ref u2, .int 0])), (u2, .inl (cI, (6, .inl (fun _ => 0))))] H := hP
  have hD : va_D A [(h0, .inr (7, [.ref x1, .null, .ref q0, .ref q1, .ref q2, .int 12])), (q0, .inr (5, [.ref u0, .int (nI 36)])), (u0, .inl (cI, (36, .inl (fun _ => 0)))), (q1, .inr (5, [.ref u1, .int 0])), (u1, .inl (cI, (6, .inl (fun _ => 0)))), (q2, .inr (5, [.ref u2, .int 0])), (u2, .inl (cI, (6, .inl (fun _ => 0))))] := hD
  refine lv_aload_n hx hb dX7_init_57 rfl (lv_at hl 0 rfl) ?_
  refine lv_aload_n hx hb dX7_init_58 rfl (lv_at hl 2 rfl) ?_
  refine va_putF (D := D) (ci := 7) (v := .ref x2) (ty := .object "TwigsAndStones$Route") (C := RX7) (T := TX7) (N := 6) hx hb hts hin7 tyX7 tyX7_ok nmX7 hown hK.1 hP hD hS 0 rfl rfl 1 (by decide) (hts _ fl_X7_38) (fun _ h9 => h9) rfl hin rfl (by decide +kernel) rfl rfl (Nat.le_of_ble_eq_true rfl) dX7_init_59 (fun H locs hP hD hS => ?_)
  have hP : va_P D vwCl [(h0, .inr (7, [.ref x1, .ref x2, .ref q0, .ref q1, .ref q2, .int 12])), (q0, .inr (5, [.ref u0, .int (nI 36)])), (u0, .inl (cI, (36, .inl (fun _ => 0)))), (q1, .inr (5, [.ref u1, .int 0])), (u1, .inl (cI, (6, .inl (fun _ => 0)))), (q2, .inr (5, [.ref u2, .int 0])), (u2, .inl (cI, (6, .inl (fun _ => 0))))] H := hP
  have hD : va_D A [(h0, .inr (7, [.ref x1, .ref x2, .ref q0, .ref q1, .ref q2, .int 12])), (q0, .inr (5, [.ref u0, .int (nI 36)])), (u0, .inl (cI, (36, .inl (fun _ => 0)))), (q1, .inr (5, [.ref u1, .int 0])), (u1, .inl (cI, (6, .inl (fun _ => 0)))), (q2, .inr (5, [.ref u2, .int 0])), (u2, .inl (cI, (6, .inl (fun _ => 0))))] := hD
  refine W.widen (k := 6) (n := 54) (Nat.le_of_ble_eq_true rfl) (Nat.le_of_ble_eq_true rfl) ?_
  exact W.vret hx hb hr (fun t ht hW => ⟨⟨adr [q0, u0, q1, u1, q2, u2], rfl, trivial, by rw [ht]; exact hP, hD⟩, hS.F ht⟩) hS.2.2 dX7_init_62

set_option maxHeartbeats 4000000 in
set_option maxRecDepth 100000 in
theorem c_X3_init (l : Launch) (D : va_G) (cI cZ : ClassId) (h0 sz : Nat) (x1 x2 : Nat) : CV l D cI cZ yX3_init wyX3_init ({ frames := 2, cells := 4, slots := 268, locals := 43 } : Room) [.ref h0, .ref x1, .ref x2] [(h0, .inr (3, [.null, .null, .null, .null]))] sz (fun u : Nat → Nat => [(h0, .inr (3, [.ref x1, .ref x2, .ref (u 0), .ref (u 2)])), ((u 0), .inr (5, [.ref (u 1), .int 0])), ((u 1), .inl (cI, (8, .inl (fun _ => 0)))), ((u 2), .inr (5, [.ref (u 3), .int (nI 256)])), ((u 3), .inl (cI, (256, .inl (fun _ => 0))))]) 4 268 := by
  refine Met.ofW (cc := cX3_init) (maxL := 3) (ret := none) (by decide) rfl ?_
  intro p e s m args below meth c s₁ B hml hv
  obtain ⟨rfl, hsz, hK, hP, hD0⟩ := hv
  have hx := B.exec
  have hb := B.bytes
  have hr := B.returns
  have hts0 := atoms_spec (ws := wyX3_init) B.pre
  have hts : ∀ w ∈ big, w.before _ s = true := fun w h => hts0 w (List.mem_cons_of_mem _ h)
  have hown : s.vm.findClass RX3 = some m.cls := findClass_of_methodNamed B.named
  have hlocks := B.notSynchronized
  have hin : meth.name = "<init>" := (name_of_methodNamed B.named B.method).1
  subst hsz
  have hD := hD0.self (sz := s.heap.size)
  generalize hAe : va_A [(h0, .inr (3, [.null, .null, .null, .null]))] s.heap.size = A at hD ⊢
  have hA : ∀ q : Nat, s.heap.size ≤ q → A q := fun q h => by rw [← hAe]; exact Or.inr h
  have hS : va_S A s.heap s.heap [] := va_S.rf
  have hl := lv_entry ([.ref h0, .ref x1, .ref x2]) (n := 3) (Nat.le_of_ble_eq_true rfl)
  rw [lg_entry_eq]
  generalize (lg_sl ([.ref h0, .ref x1, .ref x2]) ++ List.replicate (3 - (lg_sl ([.ref h0, .ref x1, .ref x2])).length) Slot.unset).toArray = ls at hl ⊢
  have hl : lv_has ls 3 [(0, .ref h0), (1, .ref x1), (2, .ref x2)] := hl
  refine lv_aload_n hx hb dX3_init_0 rfl (lv_at hl 0 rfl) ?_
  refine W.objInit hx hb hown (hts _ ml_X3_3) (hts _ kx_oi) (hts _ kx_oc) rfl (by rw [hml]; exact hl.1) rfl dX3_init_1 (Nat.le_of_ble_eq_true rfl) (Nat.le_of_ble_eq_true rfl) ?_
  refine W.eq (g2 := F0 m 4 ls []) rfl ?_
  refine lv_aload_n hx hb dX3_init_4 rfl (lv_at hl 0 rfl) ?_
  refine va_new (ci := 5) (fs := [.null, .int 0]) (C := RX5) (T := TX5) (N := 2) hx hb hts hin5 tyX5 tyX5_ok hown (hts _ kx_classLink_RX3_9_RX5) (hts _ kx_instantiable_RX5_2) (hts _ kx_initialized_RX5) hK.1 hP hD hS hA rfl (fun j hj => by rcases (show j = 0 ∨ j = 1 by omega) with rfl | rfl <;> rfl) (Nat.le_of_ble_eq_true rfl) (Nat.le_of_ble_eq_true rfl) dX3_init_5 (fun q0 H hP hD hS => ?_)
  have hP : va_P D vwCl [(h0, .inr (3, [.null, .null, .null, .null])), (q0, .inr (5, [.null, .int 0]))] H := hP
  have hD : va_D A [(h0, .inr (3, [.null, .null, .null, .null])), (q0, .inr (5, [.null, .int 0]))] := hD
  refine W.widen (k := 1) (n := 2) (Nat.le_of_ble_eq_true rfl) (Nat.le_of_ble_eq_true rfl) ?_
  refine lv_dup hx hb dX3_init_8 rfl ?_
  refine lv_bipush (v := 8) hx hb dX3_init_9 (by decide) ?_
  have hPc := hP.sub (ws' := [(q0, .inr (5, [.null, .int 0]))]) [1] rfl
  have hDc := hD.sub (ws' := [(q0, .inr (5, [.null, .int 0]))]) [1] (by decide) rfl
  have hFc := va_free (wc := [(q0, .inr (5, [.null, .int 0]))]) hD hS hA [1] rfl
  refine va_callv (va_runI (As := [.int (nI 8)]) (rest := [.ref q0, .ref h0]) ⟨hx, hb, hml, hown, hts⟩ (c_X5_init l D cI cZ q0 H.size 8 (by decide)) (cw_X3_13 hts rfl rfl ⟨Nat.le_of_ble_eq_true rfl, Nat.le_of_ble_eq_true rfl⟩) (cv_pre hK hPc (hDc.weaken (fun _ _ _ _ => trivial))) rfl rfl hl.1 rfl (lv_room (Nat.le_of_ble_eq_true rfl)) dX3_init_11 ⟨Nat.le_of_ble_eq_true rfl, Nat.le_of_ble_eq_true rfl⟩) hS (fun q _ h => hFc q h) hFc (fun u0 t H1 locs ht hvm hw hB hz1 hk1 hS => ?_)
  obtain ⟨hP1, hD1⟩ := hB
  rw [ht] at hP1
  obtain ⟨hP, hD⟩ := va_join (wr := [(h0, .inr (3, [.null, .null, .null, .null]))]) (w1 := [(q0, .inr (5, [.ref u0, .int 0])), (u0, .inl (cI, (8, .inl (fun _ => 0))))]) hP hD [1] [0] rfl rfl (by decide) (by decide) hk1 hFc hP1 hD1
  generalize H1 = H at hP hS ⊢
  have hP : va_P D vwCl [(h0, .inr (3, [.null, .null, .null, .null])), (q0, .inr (5, [.ref u0, .int 0])), (u0, .inl (cI, (8, .inl (fun _ => 0))))] H := hP
  have hD : va_D A [(h0, .inr (3, [.null, .null, .null, .null])), (q0, .inr (5, [.ref u0, .int 0])), (u0, .inl (cI, (8, .inl (fun _ => 0))))] := hD
  refine W.widen (k := 2) (n := 10) (Nat.le_of_ble_eq_true rfl) (Nat.le_of_ble_eq_true rfl) ?_
  clear hPc hDc hFc hP1 hD1 hk1 hz1 hw
  refine va_putF (D := D) (ci := 3) (v := .ref q0) (ty := .object "TwigsAndStones$Row") (C := RX3) (T := TX3) (N := 4) hx hb hts hin3 tyX3 tyX3_ok nmX3 hown hK.1 hP hD hS 0 rfl rfl 2 (by decide) (hts _ fl_X3_16) (fun _ h9 => h9) rfl hin rfl (by decide +kernel) rfl rfl (Nat.le_of_ble_eq_true rfl) dX3_init_14 (fun H locs hP hD hS => ?_)
  have hP : va_P D vwCl [(h0, .inr (3, [.null, .null, .ref q0, .null])), (q0, .inr (5, [.ref u0, .int 0])), (u0, .inl (cI, (8, .inl (fun _ => 0))))] H := hP
  have hD : va_D A [(h0, .inr (3, [.null, .null, .ref q0, .null])), (q0, .inr (5, [.ref u0, .int 0])), (u0, .inl (cI, (8, .inl (fun _ => 0))))] := hD
  refine lv_aload_n hx hb dX3_init_17 rfl (lv_at hl 0 rfl) ?_
  refine va_new (ci := 5) (fs := [.null, .int 0]) (C := RX5) (T := TX5) (N := 2) hx hb hts hin5 tyX5 tyX5_ok hown (hts _ kx_classLink_RX3_9_RX5) (hts _ kx_instantiable_RX5_2) (hts _ kx_initialized_RX5) hK.1 hP hD hS hA rfl (fun j hj => by rcases (show j = 0 ∨ j = 1 by omega) with rfl | rfl <;> rfl) (Nat.le_of_ble_eq_true rfl) (Nat.le_of_ble_eq_true rfl) dX3_init_18 (fun q1 H hP hD hS => ?_)
  have hP : va_P D vwCl [(h0, .inr (3, [.null, .null, .ref q0, .null])), (q0, .inr (5, [.ref u0, .int 0])), (u0, .inl (cI, (8, .inl (fun _ => 0)))), (q1, .inr (5, [.null, .int 0]))] H := hP
  have hD : va_D A [(h0, .inr (3, [.null, .null, .ref q0, .null])), (q0, .inr (5, [.ref u0, .int 0])), (u0, .inl (cI, (8, .inl (fun _ => 0)))), (q1, .inr (5, [.null, .int 0]))] := hD
  refine W.widen (k := 3) (n := 12) (Nat.le_of_ble_eq_true rfl) (Nat.le_of_ble_eq_true rfl) ?_
  refine lv_dup hx hb dX3_init_21 rfl ?_
  refine lv_sipush (v := 256) hx hb dX3_init_22 (by decide) ?_
  have hPc := hP.sub (ws' := [(q1, .inr (5, [.null, .int 0]))]) [3] rfl
  have hDc := hD.sub (ws' := [(q1, .inr (5, [.null, .int 0]))]) [3] (by decide) rfl
  have hFc := va_free (wc := [(q1, .inr (5, [.null, .int 0]))]) hD hS hA [3] rfl
  refine va_callv (va_runI (As := [.int (nI 256)]) (rest := [.ref q1, .ref h0]) ⟨hx, hb, hml, hown, hts⟩ (c_X5_init l D cI cZ q1 H.size 256 (by decide)) (cw_X3_13 hts rfl rfl ⟨Nat.le_of_ble_eq_true rfl, Nat.le_of_ble_eq_true rfl⟩) (cv_pre hK hPc (hDc.weaken (fun _ _ _ _ => trivial))) rfl rfl hl.1 rfl (lv_room (Nat.le_of_ble_eq_true rfl)) dX3_init_25 ⟨Nat.le_of_ble_eq_true rfl, Nat.le_of_ble_eq_true rfl⟩) hS (fun q _ h => hFc q h) hFc (fun u1 t H1 locs ht hvm hw hB hz1 hk1 hS => ?_)
  obtain ⟨hP1, hD1⟩ := hB
  rw [ht] at hP1
  obtain ⟨hP, hD⟩ := va_join (wr := [(h0, .inr (3, [.null, .null, .ref q0, .null])), (q0, .inr (5, [.ref u0, .int 0])), (u0, .inl (cI, (8, .inl (fun _ => 0))))]) (w1 := [(q1, .inr (5, [.ref u1, .int 0])), (u1, .inl (cI, (256, .inl (fun _ => 0))))]) hP hD [3] [0, 1, 2] rfl rfl (by decide) (by decide) hk1 hFc hP1 hD1
  generalize H1 = H at hP hS ⊢
  have hP : va_P D vwCl [(h0, .inr (3, [.null, .null, .ref q0, .null])), (q0, .inr (5, [.ref u0, .int 0])), (u0, .inl (cI, (8, .inl (fun _ => 0)))), (q1, .inr (5, [.ref u1, .int 0])), (u1, .inl (cI, (256, .inl (fun _ => 0))))] H := hP
  have hD : va_D A [(h0, .inr (3, [.null, .null, .ref q0, .null])), (q0, .inr (5, [.ref u0, .int 0])), (u0, .inl (cI, (8, .inl (fun _ => 0)))), (q1, .inr (5, [.ref u1, .int 0])), (u1, .inl (cI, (256, .inl (fun _ => 0))))] := hD
  refine W.widen (k := 4) (n := 268) (Nat.le_of_ble_eq_true rfl) (Nat.le_of_ble_eq_true rfl) ?_
  clear hPc hDc hFc hP1 hD1 hk1 hz1 hw
  have hPc := hP.sub (ws' := [(q1, .inr (5, [.ref u1, .int 0])), (u1, .inl (cI, (256, .inl (fun _ => 0))))]) [3, 4] rfl
  have hDc := hD.sub (ws' := [(q1, .inr (5, [.ref u1, .int 0])), (u1, .inl (cI, (256, .inl (fun _ => 0))))]) [3, 4] (by decide) rfl
  have hFc := va_free (wc := [(q1, .inr (5, [.ref u1, .int 0])), (u1, .inl (cI, (256, .inl (fun _ => 0))))]) hD hS hA [3, 4] rfl
  have hpre := cv_pre hK hPc (av := [.ref q1]) (hDc.weaken (fun _ _ _ _ => trivial))
  refine va_callr (va_runV (As := []) (rest := [.ref h0]) ⟨hx, hb, hml, hown, hts⟩ (c_X5_filled l D cI cZ q1 u1 H.size 256 (fun _ => 0)) (cw_X3_22 hts rfl rfl ⟨Nat.le_of_ble_eq_true rfl, Nat.le_of_ble_eq_true rfl⟩) ⟨hpre.1, va_recv hK.1 hPc (show vwCl[5]? = some (RX5, TX5, 2) from rfl) (show ([(q1, .inr (5, [.ref u1, .int 0])), (u1, .inl (cI, (256, .inl (fun _ => 0))))] : va_W)[0]? = some (q1, .inr (5, [.ref u1, .int 0])) from rfl), hpre.2⟩ rfl rfl hl.1 rfl (lv_room (Nat.le_of_ble_eq_true rfl)) dX3_init_28 ⟨Nat.le_of_ble_eq_true rfl, Nat.le_of_ble_eq_true rfl⟩) hS (fun q _ h => hFc q h) hFc (fun _ ra t H1 locs ht hvm hw hB hz1 hk1 hS => ?_)
  obtain ⟨e9, hP1, hD1⟩ := hB
  rw [ht] at hP1
  rw [e9]
  obtain ⟨hP, hD⟩ := va_join (wr := [(h0, .inr (3, [.null, .null, .ref q0, .null])), (q0, .inr (5, [.ref u0, .int 0])), (u0, .inl (cI, (8, .inl (fun _ => 0))))]) (w1 := [(q1, .inr (5, [.ref u1, .int (nI 256)])), (u1, .inl (cI, (256, .inl (fun _ => 0))))]) hP hD [3, 4] [0, 1, 2] rfl rfl (by decide) (by decide) hk1 hFc hP1 hD1
  generalize H1 = H at hP hS ⊢
  have hP : va_P D vwCl [(h0, .inr (3, [.null, .null, .ref q0, .null])), (q0, .inr (5, [.ref u0, .int 0])), (u0, .inl (cI, (8, .inl (fun _ => 0)))), (q1, .inr (5, [.ref u1, .int (nI 256)])), (u1, .inl (cI, (256, .inl (fun _ => 0))))] H := hP
  have hD : va_D A [(h0, .inr (3, [.null, .null, .ref q0, .null])), (q0, .inr (5, [.ref u0, .int 0])), (u0, .inl (cI, (8, .inl (fun _ => 0)))), (q1, .inr (5, [.ref u1, .int (nI 256)])), (u1, .inl (cI, (256, .inl (fun _ => 0))))] := hD
  refine W.widen (k := 4) (n := 268) (Nat.le_of_ble_eq_true rfl) (Nat.le_of_ble_eq_true rfl) ?_
  clear hPc hDc hFc hP1 hD1 hk1 hz1 hw e9 hpre
  refine va_putF (D := D) (ci := 3) (v := .ref q1) (ty := .object "TwigsAndStones$Row") (C := RX3) (T := TX3) (N := 4) hx hb hts hin3 tyX3 tyX3_ok nmX3 hown hK.1 hP hD hS 0 rfl rfl 3 (by decide) (hts _ fl_X3_26) (fun _ h9 => h9) rfl hin rfl (by decide +kernel) rfl rfl (Nat.le_of_ble_eq_true rfl) dX3_init_31 (fun H locs hP hD hS => ?_)
  have hP : va_P D vwCl [(h0, .inr (3, [.null, .null, .ref q0, .ref q1])), (q0, .inr (5, [.ref u0, .int 0])), (u0, .inl (cI, (8, .inl (fun _ => 0)))), (q1, .inr (5, [.ref u1, .int (nI 256)])), (u1, .inl (cI, (256, .inl (fun _ => 0))))] H := hP
  have hD : va_D A [(h0, .inr (3, [.null, .null, .ref q0, .ref q1])), (q0, .inr (5, [.ref u0, .int 0])), (u0, .inl (cI, (8, .inl (fun _ => 0)))), (q1, .inr (5, [.ref u1, .int (nI 256)])), (u1, .inl (cI, (256, .inl (fun _ => 0))))] := hD
  refine lv_aload_n hx hb dX3_init_34 rfl (lv_at hl 0 rfl) ?_
  refine lv_aload_n hx hb dX3_init_35 rfl (lv_at hl 1 rfl) ?_
  refine va_putF (D := D) (ci := 3) (v := .ref x1) (ty := .object "TwigsAndStones$Net") (C := RX3) (T := TX3) (N := 4) hx hb hts hin3 tyX3 tyX3_ok nmX3 hown hK.1 hP hD hS 0 rfl rfl 0 (by decide) (hts _ fl_X3_29) (fun _ h9 => h9) rfl hin rfl (by decide +kernel) rfl rfl (Nat.le_of_ble_eq_true rfl) dX3_init_36 (fun H locs hP hD hS => ?_)
  have hP : va_P D vwCl [(h0, .inr (3, [.ref x1, .null, .ref q0, .ref q1])), (q0, .inr (5, [.ref u0, .int 0])), (u0, .inl (cI, (8, .inl (fun _ => 0)))), (q1, .inr (5, [.ref u1, .int (nI 256)])), (u1, .inl (cI, (256, .inl (fun _ => 0))))] H := hP
  have hD : va_D A [(h0, .inr (3, [.ref x1, .null, .ref q0, .ref q1])), (q0, .inr (5, [.ref u0, .int 0])), (u0, .inl (cI, (8, .inl (fun _ => 0)))), (q1, .inr (5, [.ref u1, .int (nI 256)])), (u1, .inl (cI, (256, .inl (fun _ => 0))))] := hD
  refine lv_aload_n hx hb dX3_init_39 rfl (lv_at hl 0 rfl) ?_
  refine lv_aload_n hx hb dX3_init_40 rfl (lv_at hl 2 rfl) ?_
  refine va_putF (D := D) (ci := 3) (v := .ref x2) (ty := .object "TwigsAndStones$Signs") (C := RX3) (T := TX3) (N := 4) hx hb hts hin3 tyX3 tyX3_ok nmX3 hown hK.1 hP hD hS 0 rfl rfl 1 (by decide) (hts _ fl_X3_33) (fun _ h9 => h9) rfl hin rfl (by decide +kernel) rfl rfl (Nat.le_of_ble_eq_true rfl) dX3_init_41 (fun H locs hP hD hS => ?_)
  have hP : va_P D vwCl [(h0, .inr (3, [.ref x1, .ref x2, .ref q0, .ref q1])), (q0, .inr (5, [.ref u0, .int 0])), (u0, .inl (cI, (8, .inl (fun _ => 0)))), (q1, .inr (5, [.ref u1, .int (nI 256)])), (u1, .inl (cI, (256, .inl (fun _ => 0))))] H := hP
  have hD : va_D A [(h0, .inr (3, [.ref x1, .ref x2, .ref q0, .ref q1])), (q0, .inr (5, [.ref u0, .int 0])), (u0, .inl (cI, (8, .inl (fun _ => 0)))), (q1, .inr (5, [.ref u1, .int (nI 256)])), (u1, .inl (cI, (256, .inl (fun _ => 0))))] := hD
  refine W.widen (k := 4) (n := 268) (Nat.le_of_ble_eq_true rfl) (Nat.le_of_ble_eq_true rfl) ?_
  exact W.vret hx hb hr (fun t ht hW => ⟨⟨adr [q0, u0, q1, u1], rfl, trivial, by rw [ht]; exact hP, hD⟩, hS.F ht⟩) hS.2.2 dX3_init_44

set_option maxHeartbeats 4000000 in
set_option maxRecDepth 100000 in
theorem c_X6_init (l : Launch) (D : va_G) (cI cZ : ClassId) (h0 sz : Nat) (x1 : Nat) : CV l D cI cZ yX6_init wyX6_init ({ frames := 2, cells := 14, slots := 182, locals := 43 } : Room) [.ref h0, .ref x1] [(h0, .inr (6, [.null, .null, .null, .null, .null, .null, .null, .null, .int 0, .int 0, .int 0]))] sz (fun u : Nat → Nat => [(h0, .inr (6, [.ref x1, .ref (u 0), .ref (u 2), .ref (u 4), .ref (u 6), .ref (u 8), .ref (u 10), .ref (u 12), .int 0, .int 0, .int 0])), ((u 0), .inr (5, [.ref (u 1), .int 0])), ((u 1), .inl (cI, (24, .inl (fun _ => 0)))), ((u 2), .inr (5, [.ref (u 3), .int 0])), ((u 3), .inl (cI, (24, .inl (fun _ => 0)))), ((u 4), .inr (5, [.ref (u 5), .int 0])), ((u 5), .inl (cI, (24, .inl (fun _ => 0)))), ((u 6), .inr (5, [.ref (u 7), .int 0])), ((u 7), .inl (cI, (24, .inl (fun _ => 0)))), ((u 8), .inr (5, [.ref (u 9), .int 0])), ((u 9), .inl (cI, (24, .inl (fun _ => 0)))), ((u 10), .inr (5, [.ref (u 11), .int 0])), ((u 11), .inl (cI, (24, .inl (fun _ => 0)))), ((u 12), .inr (5, [.ref (u 13), .int 0])), ((u 13), .inl (cI, (24, .inl (fun _ => 0))))]) 14 182 := by
  refine Met.ofW (cc := cX6_init) (maxL := 2) (ret := none) (by decide) rfl ?_
  intro p e s m args below meth c s₁ B hml hv
  obtain ⟨rfl, hsz, hK, hP, hD0⟩ := hv
  have hx := B.exec
  have hb := B.bytes
  have hr := B.returns
  have hts0 := atoms_spec (ws := wyX6_init) B.pre
  have hts : ∀ w ∈ big, w.before _ s = true := fun w h => hts0 w (List.mem_cons_of_mem _ h)
  have hown : s.vm.findClass RX6 = some m.cls := findClass_of_methodNamed B.named
  have hlocks := B.notSynchronized
  have hin : meth.name = "<init>" := (name_of_methodNamed B.named B.method).1
  subst hsz
  have hD := hD0.self (sz := s.heap.size)
  generalize hAe : va_A [(h0, .inr (6, [.null, .null, .null, .null, .null, .null, .null, .null, .int 0, .int 0, .int 0]))] s.heap.size = A at hD ⊢
  have hA : ∀ q : Nat, s.heap.size ≤ q → A q := fun q h => by rw [← hAe]; exact Or.inr h
  have hS : va_S A s.heap s.heap [] := va_S.rf
  have hl := lv_entry ([.ref h0, .ref x1]) (n := 2) (Nat.le_of_ble_eq_true rfl)
  rw [lg_entry_eq]
  generalize (lg_sl ([.ref h0, .ref x1]) ++ List.replicate (2 - (lg_sl ([.ref h0, .ref x1])).length) Slot.unset).toArray = ls at hl ⊢
  have hl : lv_has ls 2 [(0, .ref h0), (1, .ref x1)] := hl
  refine lv_aload_n hx hb dX6_init_0 rfl (lv_at hl 0 rfl) ?_
  refine W.objInit hx hb hown (hts _ ml_X6_3) (hts _ kx_oi) (hts _ kx_oc) rfl (by rw [hml]; exact hl.1) rfl dX6_init_1 (Nat.le_of_ble_eq_true rfl) (Nat.le_of_ble_eq_true rfl) ?_
  refine W.eq (g2 := F0 m 4 ls []) rfl ?_
  refine lv_aload_n hx hb dX6_init_4 rfl (lv_at hl 0 rfl) ?_
  refine va_new (ci := 5) (fs := [.null, .int 0]) (C := RX5) (T := TX5) (N := 2) hx hb hts hin5 tyX5 tyX5_ok hown (hts _ kx_classLink_RX6_9_RX5) (hts _ kx_instantiable_RX5_2) (hts _ kx_initialized_RX5) hK.1 hP hD hS hA rfl (fun j hj => by rcases (show j = 0 ∨ j = 1 by omega) with rfl | rfl <;> rfl) (Nat.le_of_ble_eq_true rfl) (Nat.le_of_ble_eq_true rfl) dX6_init_5 (fun q0 H hP hD hS => ?_)
  have hP : va_P D vwCl [(h0, .inr (6, [.null, .null, .null, .null, .null, .null, .null, .null, .int 0, .int 0, .int 0])), (q0, .inr (5, [.null, .int 0]))] H := hP
  have hD : va_D A [(h0, .inr (6, [.null, .null, .null, .null, .null, .null, .null, .null, .int 0, .int 0, .int 0])), (q0, .inr (5, [.null, .int 0]))] := hD
  refine W.widen (k := 1) (n := 2) (Nat.le_of_ble_eq_true rfl) (Nat.le_of_ble_eq_true rfl) ?_
  refine lv_dup hx hb dX6_init_8 rfl ?_
  refine lv_bipush (v := 24) hx hb dX6_init_9 (by decide) ?_
  have hPc := hP.sub (ws' := [(q0, .inr (5, [.null, .int 0]))]) [1] rfl
  have hDc := hD.sub (ws' := [(q0, .inr (5, [.null, .int 0]))]) [1] (by decide) rfl
  have hFc := va_free (wc := [(q0, .inr (5, [.null, .int 0]))]) hD hS hA [1] rfl
  refine va_callv (va_runI (As := [.int (nI 24)]) (rest := [.ref q0, .ref h0]) ⟨hx, hb, hml, hown, hts⟩ (c_X5_init l D cI cZ q0 H.size 24 (by decide)) (cw_X6_13 hts rfl rfl ⟨Nat.le_of_ble_eq_true rfl, Nat.le_of_ble_eq_true rfl⟩) (cv_pre hK hPc (hDc.weaken (fun _ _ _ _ => trivial))) rfl rfl hl.1 rfl (lv_room (Nat.le_of_ble_eq_true rfl)) dX6_init_11 ⟨Nat.le_of_ble_eq_true rfl, Nat.le_of_ble_eq_true rfl⟩) hS (fun q _ h => hFc q h) hFc (fun u0 t H1 locs ht hvm hw hB hz1 hk1 hS => ?_)
  obtain ⟨hP1, hD1⟩ := hB
  rw [ht] at hP1
  obtain ⟨hP, hD⟩ := va_join (wr := [(h0, .inr (6, [.null, .null, .null, .null, .null, .null, .null, .null, .int 0, .int 0, .int 0]))]) (w1 := [(q0, .inr (5, [.ref u0, .int 0])), (u0, .inl (cI, (24, .inl (fun _ => 0))))]) hP hD [1] [0] rfl rfl (by decide) (by decide) hk1 hFc hP1 hD1
  generalize H1 = H at hP hS ⊢
  have hP : va_P D vwCl [(h0, .inr (6, [.null, .null, .null, .null, .null, .null, .null, .null, .int 0, .int 0, .int 0])), (q0, .inr (5, [.ref u0, .int 0])), (u0, .inl (cI, (24, .inl (fun _ => 0))))] H := hP
  have hD : va_D A [(h0, .inr (6, [.null, .null, .null, .null, .null, .null, .null, .null, .int 0, .int 0, .int 0])), (q0, .inr (5, [.ref u0, .int 0])), (u0, .inl (cI, (24, .inl (fun _ => 0))))] := hD
  refine W.widen (k := 2) (n := 26) (Nat.le_of_ble_eq_true rfl) (Nat.le_of_ble_eq_true rfl) ?_
  clear hPc hDc hFc hP1 hD1 hk1 hz1 hw
  refine va_putF (D := D) (ci := 6) (v := .ref q0) (ty := .object "TwigsAndStones$Row") (C := RX6) (T := TX6) (N := 11) hx hb hts hin6 tyX6 tyX6_ok nmX6 hown hK.1 hP hD hS 0 rfl rfl 1 (by decide) (hts _ fl_X6_16) (fun _ h9 => h9) rfl hin rfl (by decide +kernel) rfl rfl (Nat.le_of_ble_eq_true rfl) dX6_init_14 (fun H locs hP hD hS => ?_)
  have hP : va_P D vwCl [(h0, .inr (6, [.null, .ref q0, .null, .null, .null, .null, .null, .null, .int 0, .int 0, .int 0])), (q0, .inr (5, [.ref u0, .int 0])), (u0, .inl (cI, (24, .inl (fun _ => 0))))] H := hP
  have hD : va_D A [(h0, .inr (6, [.null, .ref q0, .null, .null, .null, .null, .null, .null, .int 0, .int 0, .int 0])), (q0, .inr (5, [.ref u0, .int 0])), (u0, .inl (cI, (24, .inl (fun _ => 0))))] := hD
  refine lv_aload_n hx hb dX6_init_17 rfl (lv_at hl 0 rfl) ?_
  refine va_new (ci := 5) (fs := [.null, .int 0]) (C := RX5) (T := TX5) (N := 2) hx hb hts hin5 tyX5 tyX5_ok hown (hts _ kx_classLink_RX6_9_RX5) (hts _ kx_instantiable_RX5_2) (hts _ kx_initialized_RX5) hK.1 hP hD hS hA rfl (fun j hj => by rcases (show j = 0 ∨ j = 1 by omega) with rfl | rfl <;> rfl) (Nat.le_of_ble_eq_true rfl) (Nat.le_of_ble_eq_true rfl) dX6_init_18 (fun q1 H hP hD hS => ?_)
  have hP : va_P D vwCl [(h0, .inr (6, [.null, .ref q0, .null, .null, .null, .null, .null, .null, .int 0, .int 0, .int 0])), (q0, .inr (5, [.ref u0, .int 0])), (u0, .inl (cI, (24, .inl (fun _ => 0)))), (q1, .inr (5, [.null, .int 0]))] H := hP
  have hD : va_D A [(h0, .inr (6, [.null, .ref q0, .null, .null, .null, .null, .null, .null, .int 0, .int 0, .int 0])), (q0, .inr (5, [.ref u0, .int 0])), (u0, .inl (cI, (24, .inl (fun _ => 0)))), (q1, .inr (5, [.null, .int 0]))] := hD
  refine W.widen (k := 3) (n := 28) (Nat.le_of_ble_eq_true rfl) (Nat.le_of_ble_eq_true rfl) ?_
  refine lv_dup hx hb dX6_init_21 rfl ?_
  refine lv_bipush (v := 24) hx hb dX6_init_22 (by decide) ?_
  have hPc := hP.sub (ws' := [(q1, .inr (5, [.null, .int 0]))]) [3] rfl
  have hDc := hD.sub (ws' := [(q1, .inr (5, [.null, .int 0]))]) [3] (by decide) rfl
  have hFc := va_free (wc := [(q1, .inr (5, [.null, .int 0]))]) hD hS hA [3] rfl
  refine va_callv (va_runI (As := [.int (nI 24)]) (rest := [.ref q1, .ref h0]) ⟨hx, hb, hml, hown, hts⟩ (c_X5_init l D cI cZ q1 H.size 24 (by decide)) (cw_X6_13 hts rfl rfl ⟨Nat.le_of_ble_eq_true rfl, Nat.le_of_ble_eq_true rfl⟩) (cv_pre hK hPc (hDc.weaken (fun _ _ _ _ => trivial))) rfl rfl hl.1 rfl (lv_room (Nat.le_of_ble_eq_true rfl)) dX6_init_24 ⟨Nat.le_of_ble_eq_true rfl, Nat.le_of_ble_eq_true rfl⟩) hS (fun q _ h => hFc q h) hFc (fun u1 t H1 locs ht hvm hw hB hz1 hk1 hS => ?_)
  obtain ⟨hP1, hD1⟩ := hB
  rw [ht] at hP1
  obtain ⟨hP, hD⟩ := va_join (wr := [(h0, .inr (6, [.null, .ref q0, .null, .null, .null, .null, .null, .null, .int 0, .int 0, .int 0])), (q0, .inr (5, [.ref u0, .int 0])), (u0, .inl (cI, (24, .inl (fun _ => 0))))]) (w1 := [(q1, .inr (5, [.ref u1, .int 0])), (u1, .inl (cI, (24, .inl (fun _ => 0))))]) hP hD [3] [0, 1, 2] rfl rfl (by decide) (by decide) hk1 hFc hP1 hD1
  generalize H1 = H at hP hS ⊢
  have hP : va_P D vwCl [(h0, .inr (6, [.null, .ref q0, .null, .null, .null, .null, .null, .null, .int 0, .int 0, .int 0])), (q0, .inr (5, [.ref u0, .int 0])), (u0, .inl (cI, (24, .inl (fun _ => 0)))), (q1, .inr (5, [.ref u1, .int 0])), (u1, .inl (cI, (24, .inl (fun _ => 0))))] H := hP
  have hD : va_D A [(h0, .inr (6, [.null, .ref q0, .null, .null, .null, .null, .null, .null, .int 0, .int 0, .int 0])), (q0, .inr (5, [.ref u0, .int 0])), (u0, .inl (cI, (24, .inl (fun _ => 0)))), (q1, .inr (5, [.ref u1, .int 0])), (u1, .inl (cI, (24, .inl (fun _ => 0))))] := hD
  refine W.widen (k := 4) (n := 52) (Nat.le_of_ble_eq_true rfl) (Nat.le_of_ble_eq_true rfl) ?_
  clear hPc hDc hFc hP1 hD1 hk1 hz1 hw
  refine va_putF (D := D) (ci := 6) (v := .ref q1) (ty := .object "TwigsAndStones$Row") (C := RX6) (T := TX6) (N := 11) hx hb hts hin6 tyX6 tyX6_ok nmX6 hown hK.1 hP hD hS 0 rfl rfl 2 (by decide) (hts _ fl_X6_20) (fun _ h9 => h9) rfl hin rfl (by decide +kernel) rfl rfl (Nat.le_of_ble_eq_true rfl) dX6_init_27 (fun H locs hP hD hS => ?_)
  have hP : va_P D vwCl [(h0, .inr (6, [.null, .ref q0, .ref q1, .null, .null, .null, .null, .null, .int 0, .int 0, .int 0])), (q0, .inr (5, [.ref u0, .int 0])), (u0, .inl (cI, (24, .inl (fun _ => 0)))), (q1, .inr (5, [.ref u1, .int 0])), (u1, .inl (cI, (24, .inl (fun _ => 0))))] H := hP
  have hD : va_D A [(h0, .inr (6, [.null, .ref q0, .ref q1, .null, .null, .null, .null, .null, .int 0, .int 0, .int 0])), (q0, .inr (5, [.ref u0, .int 0])), (u0, .inl (cI, (24, .inl (fun _ => 0)))), (q1, .inr (5, [.ref u1, .int 0])), (u1, .inl (cI, (24, .inl (fun _ => 0))))] := hD
  refine lv_aload_n hx hb dX6_init_30 rfl (lv_at hl 0 rfl) ?_
  refine va_new (ci := 5) (fs := [.null, .int 0]) (C := RX5) (T := TX5) (N := 2) hx hb hts hin5 tyX5 tyX5_ok hown (hts _ kx_classLink_RX6_9_RX5) (hts _ kx_instantiable_RX5_2) (hts _ kx_initialized_RX5) hK.1 hP hD hS hA rfl (fun j hj => by rcases (show j = 0 ∨ j = 1 by omega) with rfl | rfl <;> rfl) (Nat.le_of_ble_eq_true rfl) (Nat.le_of_ble_eq_true rfl) dX6_init_31 (fun q2 H hP hD hS => ?_)
  have hP : va_P D vwCl [(h0, .inr (6, [.null, .ref q0, .ref q1, .null, .null, .null, .null, .null, .int 0, .int 0, .int 0])), (q0, .inr (5, [.ref u0, .int 0])), (u0, .inl (cI, (24, .inl (fun _ => 0)))), (q1, .inr (5, [.ref u1, .int 0])), (u1, .inl (cI, (24, .inl (fun _ => 0)))), (q2, .inr (5, [.null, .int 0]))] H := hP
  have hD : va_D A [(h0, .inr (6, [.null, .ref q0, .ref q1, .null, .null, .null, .null, .null, .int 0, .int 0, .int 0])), (q0, .inr (5, [.ref u0, .int 0])), (u0, .inl (cI, (24, .inl (fun _ => 0)))), (q1, .inr (5, [.ref u1, .int 0])), (u1, .inl (cI, (24, .inl (fun _ => 0)))), (q2, .inr (5, [.null, .int 0]))] := hD
  refine W.widen (k := 5) (n := 54) (Nat.le_of_ble_eq_true rfl) (Nat.le_of_ble_eq_true rfl) ?_
  refine lv_dup hx hb dX6_init_34 rfl ?_
  refine lv_bipush (v := 24) hx hb dX6_init_35 (by decide) ?_
  have hPc := hP.sub (ws' := [(q2, .inr (5, [.null, .int 0]))]) [5] rfl
  have hDc := hD.sub (ws' := [(q2, .inr (5, [.null, .int 0]))]) [5] (by decide) rfl
  have hFc := va_free (wc := [(q2, .inr (5, [.null, .int 0]))]) hD hS hA [5] rfl
  refine va_callv (va_runI (As := [.int (nI 24)]) (rest := [.ref q2, .ref h0]) ⟨hx, hb, hml, hown, hts⟩ (c_X5_init l D cI cZ q2 H.size 24 (by decide)) (cw_X6_13 hts rfl rfl ⟨Nat.le_of_ble_eq_true rfl, Nat.le_of_ble_eq_true rfl⟩) (cv_pre hK hPc (hDc.weaken (fun _ _ _ _ => trivial))) rfl rfl hl.1 rfl (lv_room (Nat.le_of_ble_eq_true rfl)) dX6_init_37 ⟨Nat.le_of_ble_eq_true rfl, Nat.le_of_ble_eq_true rfl⟩) hS (fun q _ h => hFc q h) hFc (fun u2 t H1 locs ht hvm hw hB hz1 hk1 hS => ?_)
  obtain ⟨hP1, hD1⟩ := hB
  rw [ht] at hP1
  obtain ⟨hP, hD⟩ := va_join (wr := [(h0, .inr (6, [.null, .ref q0, .ref q1, .null, .null, .null, .null, .null, .int 0, .int 0, .int 0])), (q0, .inr (5, [.ref u0, .int 0])), (u0, .inl (cI, (24, .inl (fun _ => 0)))), (q1, .inr (5, [.ref u1, .int 0])), (u1, .inl (cI, (24, .inl (fun _ => 0))))]) (w1 := [(q2, .inr (5, [.ref u2, .int 0])), (u2, .inl (cI, (24, .inl (fun _ => 0))))]) hP hD [5] [0, 1, 2, 3, 4] rfl rfl (by decide) (by decide) hk1 hFc hP1 hD1
  generalize H1 = H at hP hS ⊢
  have hP : va_P D vwCl [(h0, .inr (6, [.null, .ref q0, .ref q1, .null, .null, .null, .null, .null, .int 0, .int 0, .int 0])), (q0, .inr (5, [.ref u0, .int 0])), (u0, .inl (cI, (24, .inl (fun _ => 0)))), (q1, .inr (5, [.ref u1, .int 0])), (u1, .inl (cI, (24, .inl (fun _ => 0)))), (q2, .inr (5, [.ref u2, .int 0])), (u2, .inl (cI, (24, .inl (fun _ => 0))))] H := hP
  have hD : va_D A [(h0, .inr (6, [.null, .ref q0, .ref q1, .null, .null, .null, .null, .null, .int 0, .int 0, .int 0])), (q0, .inr (5, [.ref u0, .int 0])), (u0, .inl (cI, (24, .inl (fun _ => 0)))), (q1, .inr (5, [.ref u1, .int 0])), (u1, .inl (cI, (24, .inl (fun _ => 0)))), (q2, .inr (5, [.ref u2, .int 0])), (u2, .inl (cI, (24, .inl (fun _ => 0))))] := hD
  refine W.widen (k := 6) (n := 78) (Nat.le_of_ble_eq_true rfl) (Nat.le_of_ble_eq_true rfl) ?_
  clear hPc hDc hFc hP1 hD1 hk1 hz1 hw
  refine va_putF (D := D) (ci := 6) (v := .ref q2) (ty := .object "TwigsAndStones$Row") (C := RX6) (T := TX6) (N := 11) hx hb hts hin6 tyX6 tyX6_ok nmX6 hown hK.1 hP hD hS 0 rfl rfl 3 (by decide) (hts _ fl_X6_23) (fun _ h9 => h9) rfl hin rfl (by decide +kernel) rfl rfl (Nat.le_of_ble_eq_true rfl) dX6_init_40 (fun H locs hP hD hS => ?_)
  have hP : va_P D vwCl [(h0, .inr (6, [.null, .ref q0, .ref q1, .ref q2, .null, .null, .null, .null, .int 0, .int 0, .int 0])), (q0, .inr (5, [.ref u0, .int 0])), (u0, .inl (cI, (24, .inl (fun _ => 0)))), (q1, .inr (5, [.ref u1, .int 0])), (u1, .inl (cI, (24, .inl (fun _ => 0)))), (q2, .inr (5, [.ref u2, .int 0])), (u2, .inl (cI, (24, .inl (fun _ => 0))))] H := hP
  have hD : va_D A [(h0, .inr (6, [.null, .ref q0, .ref q1, .ref q2, .null, .null, .null, .null, .int 0, .int 0, .int 0])), (q0, .inr (5, [.ref u0, .int 0])), (u0, .inl (cI, (24, .inl (fun _ => 0)))), (q1, .inr (5, [.ref u1, .int 0])), (u1, .inl (cI, (24, .inl (fun _ => 0)))), (q2, .inr (5, [.ref u2, .int 0])), (u2, .inl (cI, (24, .inl (fun _ => 0))))] := hD
  refine lv_aload_n hx hb dX6_init_43 rfl (lv_at hl 0 rfl) ?_
  refine va_new (ci := 5) (fs := [.null, .int 0]) (C := RX5) (T := TX5) (N := 2) hx hb hts hin5 tyX5 tyX5_ok hown (hts _ kx_classLink_RX6_9_RX5) (hts _ kx_instantiable_RX5_2) (hts _ kx_initialized_RX5) hK.1 hP hD hS hA rfl (fun j hj => by rcases (show j = 0 ∨ j = 1 by omega) with rfl | rfl <;> rfl) (Nat.le_of_ble_eq_true rfl) (Nat.le_of_ble_eq_true rfl) dX6_init_44 (fun q3 H hP hD hS => ?_)
  have hP : va_P D vwCl [(h0, .inr (6, [.null, .ref q0, .ref q1, .ref q2, .null, .null, .null, .null, .int 0, .int 0, .int 0])), (q0, .inr (5, [.ref u0, .int 0])), (u0, .inl (cI, (24, .inl (fun _ => 0)))), (q1, .inr (5, [.ref u1, .int 0])), (u1, .inl (cI, (24, .inl (fun _ => 0)))), (q2, .inr (5, [.ref u2, .int 0])), (u2, .inl (cI, (24, .inl (fun _ => 0)))), (q3, .inr (5, [.null, .int 0]))] H := hP
  have hD : va_D A [(h0, .inr (6, [.null, .ref q0, .ref q1, .ref q2, .null, .null, .null, .null, .int 0, .int 0, .int 0])), (q0, .inr (5, [.ref u0, .int 0])), (u0, .inl (cI, (24, .inl (fun _ => 0)))), (q1, .inr (5, [.ref u1, .int 0])), (u1, .inl (cI, (24, .inl (fun _ => 0)))), (q2, .inr (5, [.ref u2, .int 0])), (u2, .inl (cI, (24, .inl (fun _ => 0)))), (q3, .inr (5, [.null, .int 0]))] := hD
  refine W.widen (k := 7) (n := 80) (Nat.le_of_ble_eq_true rfl) (Nat.le_of_ble_eq_true rfl) ?_
  refine lv_dup hx hb dX6_init_47 rfl ?_
  refine lv_bipush (v := 24) hx hb dX6_init_48 (by decide) ?_
  have hPc := hP.sub (ws' := [(q3, .inr (5, [.null, .int 0]))]) [7] rfl
  have hDc := hD.sub (ws' := [(q3, .inr (5, [.null, .int 0]))]) [7] (by decide) rfl
  have hFc := va_free (wc := [(q3, .inr (5, [.null, .int 0]))]) hD hS hA [7] rfl
  refine va_callv (va_runI (As := [.int (nI 24)]) (rest := [.ref q3, .ref h0]) ⟨hx, hb, hml, hown, hts⟩ (c_X5_init l D cI cZ q3 H.size 24 (by decide)) (cw_X6_13 hts rfl rfl ⟨Nat.le_of_ble_eq_true rfl, Nat.le_of_ble_eq_true rfl⟩) (cv_pre hK hPc (hDc.weaken (fun _ _ _ _ => trivial))) rfl rfl hl.1 rfl (lv_room (Nat.le_of_ble_eq_true rfl)) dX6_init_50 ⟨Nat.le_of_ble_eq_true rfl, Nat.le_of_ble_eq_true rfl⟩) hS (fun q _ h => hFc q h) hFc (fun u3 t H1 locs ht hvm hw hB hz1 hk1 hS => ?_)
  obtain ⟨hP1, hD1⟩ := hB
  rw [ht] at hP1
  obtain ⟨hP, hD⟩ := va_join (wr := [(h0, .inr (6, [.null, .ref q0, .ref q1, .ref q2, .null, .null, .null, .null, .int 0, .int 0, .int 0])), (q0, .inr (5, [.ref u0, .int 0])), (u0, .inl (cI, (24, .inl (fun _ => 0)))), (q1, .inr (5, [.ref u1, .int 0])), (u1, .inl (cI, (24, .inl (fun _ => 0)))), (q2, .inr (5, [.ref u2, .int 0])), (u2, .inl (cI, (24, .inl (fun _ => 0))))]) (w1 := [(q3, .inr (5, [.ref u3, .int 0])), (u3, .inl (cI, (24, .inl (fun _ => 0))))]) hP hD [7] [0, 1, 2, 3, 4, 5, 6] rfl rfl (by decide) (by decide) hk1 hFc hP1 hD1
  generalize H1 = H at hP hS ⊢
  have hP : va_P D vwCl [(h0, .inr (6, [.null, .ref q0, .ref q1, .ref q2, .null, .null, .null, .null, .int 0, .int 0, .int 0])), (q0, .inr (5, [.ref u0, .int 0])), (u0, .inl (cI, (24, .inl (fun _ => 0)))), (q1, .inr (5, [.ref u1, .int 0])), (u1, .inl (cI, (24, .inl (fun _ => 0)))), (q2, .inr (5, [.ref u2, .int 0])), (u2, .inl (cI, (24, .inl (fun _ => 0)))), (q3, .inr (5, [.ref u3, .int 0])), (u3, .inl (cI, (24, .inl (fun _ => 0))))] H := hP
  have hD : va_D A [(h0, .inr (6, [.null, .ref q0, .ref q1, .ref q2, .null, .null, .null, .null, .int 0, .int 0, .int 0])), (q0, .inr (5, [.ref u0, .int 0])), (u0, .inl (cI, (24, .inl (fun _ => 0)))), (q1, .inr (5, [.ref u1, .int 0])), (u1, .inl (cI, (24, .inl (fun _ => 0)))), (q2, .inr (5, [.ref u2, .int 0])), (u2, .inl (cI, (24, .inl (fun _ => 0)))), (q3, .inr (5, [.ref u3, .int 0])), (u3, .inl (cI, (24, .inl (fun _ => 0))))] := hD
  refine W.widen (k := 8) (n := 104) (Nat.le_of_ble_eq_true rfl) (Nat.le_of_ble_eq_true rfl) ?_
  clear hPc hDc hFc hP1 hD1 hk1 hz1 hw
  refine va_putF (D := D) (ci := 6) (v := .ref q3) (ty := .object "TwigsAndStones$Row") (C := RX6) (T := TX6) (N := 11) hx hb hts hin6 tyX6 tyX6_ok nmX6 hown hK.1 hP hD hS 0 rfl rfl 4 (by decide) (hts _ fl_X6_26) (fun _ h9 => h9) rfl hin rfl (by decide +kernel) rfl rfl (Nat.le_of_ble_eq_true rfl) dX6_init_53 (fun H locs hP hD hS => ?_)
  have hP : va_P D vwCl [(h0, .inr (6, [.null, .ref q0, .ref q1, .ref q2, .ref q3, .null, .null, .null, .int 0, .int 0, .int 0])), (q0, .inr (5, [.ref u0, .int 0])), (u0, .inl (cI, (24, .inl (fun _ => 0)))), (q1, .inr (5, [.ref u1, .int 0])), (u1, .inl (cI, (24, .inl (fun _ => 0)))), (q2, .inr (5, [.ref u2, .int 0])), (u2, .inl (cI, (24, .inl (fun _ => 0)))), (q3, .inr (5, [.ref u3, .int 0])), (u3, .inl (cI, (24, .inl (fun _ => 0))))] H := hP
  have hD : va_D A [(h0, .inr (6, [.null, .ref q0, .ref q1, .ref q2, .ref q3, .null, .null, .null, .int 0, .int 0, .int 0])), (q0, .inr (5, [.ref u0, .int 0])), (u0, .inl (cI, (24, .inl (fun _ => 0)))), (q1, .inr (5, [.ref u1, .int 0])), (u1, .inl (cI, (24, .inl (fun _ => 0)))), (q2, .inr (5, [.ref u2, .int 0])), (u2, .inl (cI, (24, .inl (fun _ => 0)))), (q3, .inr (5, [.ref u3, .int 0])), (u3, .inl (cI, (24, .inl (fun _ => 0))))] := hD
  refine lv_aload_n hx hb dX6_init_56 rfl (lv_at hl 0 rfl) ?_
  refine va_new (ci := 5) (fs := [.null, .int 0]) (C := RX5) (T := TX5) (N := 2) hx hb hts hin5 tyX5 tyX5_ok hown (hts _ kx_classLink_RX6_9_RX5) (hts _ kx_instantiable_RX5_2) (hts _ kx_initialized_RX5) hK.1 hP hD hS hA rfl (fun j hj => by rcases (show j = 0 ∨ j = 1 by omega) with rfl | rfl <;> rfl) (Nat.le_of_ble_eq_true rfl) (Nat.le_of_ble_eq_true rfl) dX6_init_57 (fun q4 H hP hD hS => ?_)
  have hP : va_P D vwCl [(h0, .inr (6, [.null, .ref q0, .ref q1, .ref q2, .ref q3, .null, .null, .null, .int 0, .int 0, .int 0])), (q0, .inr (5, [.ref u0, .int 0])), (u0, .inl (cI, (24, .inl (fun _ => 0)))), (q1, .inr (5, [.ref u1, .int 0])), (u1, .inl (cI, (24, .inl (fun _ => 0)))), (q2, .inr (5, [.ref u2, .int 0])), (u2, .inl (cI, (24, .inl (fun _ => 0)))), (q3, .inr (5, [.ref u3, .int 0])), (u3, .inl (cI, (24, .inl (fun _ => 0)))), (q4, .inr (5, [.null, .int 0]))] H := hP
  have hD : va_D A [(h0, .inr (6, [.null, .ref q0, .ref q1, .ref q2, .ref q3, .null, .null, .null, .int 0, .int 0, .int 0])), (q0, .inr (5, [.ref u0, .int 0])), (u0, .inl (cI, (24, .inl (fun _ => 0)))), (q1, .inr (5, [.ref u1, .int 0])), (u1, .inl (cI, (24, .inl (fun _ => 0)))), (q2, .inr (5, [.ref u2, .int 0])), (u2, .inl (cI, (24, .inl (fun _ => 0)))), (q3, .inr (5, [.ref u3, .int 0])), (u3, .inl (cI, (24, .inl (fun _ => 0)))), (q4, .inr (5, [.null, .int 0]))] := hD
  refine W.widen (k := 9) (n := 106) (Nat.le_of_ble_eq_true rfl) (Nat.le_of_ble_eq_true rfl) ?_
  refine lv_dup hx hb dX6_init_60 rfl ?_
  refine lv_bipush (v := 24) hx hb dX6_init_61 (by decide) ?_
  have hPc := hP.sub (ws' := [(q4, .inr (5, [.null, .int 0]))]) [9] rfl
  have hDc := hD.sub (ws' := [(q4, .inr (5, [.null, .int 0]))]) [9] (by decide) rfl
  have hFc := va_free (wc := [(q4, .inr (5, [.null, .int 0]))]) hD hS hA [9] rfl
  refine va_callv (va_runI (As := [.int (nI 24)]) (rest := [.ref q4, .ref h0]) ⟨hx, hb, hml, hown, hts⟩ (c_X5_init l D cI cZ q4 H.size 24 (by decide)) (cw_X6_13 hts rfl rfl ⟨Nat.le_of_ble_eq_true rfl, Nat.le_of_ble_eq_true rfl⟩) (cv_pre hK hPc (hDc.weaken (fun _ _ _ _ => trivial))) rfl rfl hl.1 rfl (lv_room (Nat.le_of_ble_eq_true rfl)) dX6_init_63 ⟨Nat.le_of_ble_eq_true rfl, Nat.le_of_ble_eq_true rfl⟩) hS (fun q _ h => hFc q h) hFc (fun u4 t H1 locs ht hvm hw hB hz1 hk1 hS => ?_)
  obtain ⟨hP1, hD1⟩ := hB
  rw [ht] at hP1
  obtain ⟨hP, hD⟩ := va_join (wr := [(h0, .inr (6, [.null, .ref q0, .ref q1, .ref q2, .ref q3, .null, .null, .null, .int 0, .int 0, .int 0])), (q0, .inr (5, [.ref u0, .int 0])), (u0, .inl (cI, (24, .inl (fun _ => 0)))), (q1, .inr (5, [.ref u1, .int 0])), (u1, .inl (cI, (24, .inl (fun _ => 0)))), (q2, .inr (5, [.ref u2, .int 0])), (u2, .inl (cI, (24, .inl (fun _ => 0)))), (q3, .inr (5, [.ref u3, .int 0])), (u3, .inl (cI, (24, .inl (fun _ => 0))))]) (w1 := [(q4, .inr (5, [.ref u4, .int 0])), (u4, .inl (cI, (24, .inl (fun _ => 0))))]) hP hD [9] [0, 1, 2, 3, 4, 5, 6, 7, 8] rfl rfl (by decide) (by decide) hk1 hFc hP1 hD1
  generalize H1 = H at hP hS ⊢
  have hP : va_P D vwCl [(h0, .inr (6, [.null, .ref q0, .ref q1, .ref q2, .ref q3, .null, .null, .null, .int 0, .int 0, .int 0])), (q0, .inr (5, [.ref u0, .int 0])), (u0, .inl (cI, (24, .inl (fun _ => 0)))), (q1, .inr (5, [.ref u1, .int 0])), (u1, .inl (cI, (24, .inl (fun _ => 0)))), (q2, .inr (5, [.ref u2, .int 0])), (u2, .inl (cI, (24, .inl (fun _ => 0)))), (q3, .inr (5, [.ref u3, .int 0])), (u3, .inl (cI, (24, .inl (fun _ => 0)))), (q4, .inr (5, [.ref u4, .int 0])), (u4, .inl (cI, (24, .inl (fun _ => 0))))] H := hP
  have hD : va_D A [(h0, .inr (6, [.null, .ref q0, .ref q1, .ref q2, .ref q3, .null, .null, .null, .int 0, .int 0, .int 0])), (q0, .inr (5, [.ref u0, .int 0])), (u0, .inl (cI, (24, .inl (fun _ => 0)))), (q1, .inr (5, [.ref u1, .int 0])), (u1, .inl (cI, (24, .inl (fun _ => 0)))), (q2, .inr (5, [.ref u2, .int 0])), (u2, .inl (cI, (24, .inl (fun _ => 0)))), (q3, .inr (5, [.ref u3, .int 0])), (u3, .inl (cI, (24, .inl (fun _ => 0)))), (q4, .inr (5, [.ref u4, .int 0])), (u4, .inl (cI, (24, .inl (fun _ => 0))))] := hD
  refine W.widen (k := 10) (n := 130) (Nat.le_of_ble_eq_true rfl) (Nat.le_of_ble_eq_true rfl) ?_
  clear hPc hDc hFc hP1 hD1 hk1 hz1 hw
  refine va_putF (D := D) (ci := 6) (v := .ref q4) (ty := .object "TwigsAndStones$Row") (C := RX6) (T := TX6) (N := 11) hx hb hts hin6 tyX6 tyX6_ok nmX6 hown hK.1 hP hD hS 0 rfl rfl 5 (by decide) (hts _ fl_X6_29) (fun _ h9 => h9) rfl hin rfl (by decide +kernel) rfl rfl (Nat.le_of_ble_eq_true rfl) dX6_init_66 (fun H locs hP hD hS => ?_)
  have hP : va_P D vwCl [(h0, .inr (6, [.null, .ref q0, .ref q1, .ref q2, .ref q3, .ref q4, .null, .null, .int 0, .int 0, .int 0])), (q0, .inr (5, [.ref u0, .int 0])), (u0, .inl (cI, (24, .inl (fun _ => 0)))), (q1, .inr (5, [.ref u1, .int 0])), (u1, .inl (cI, (24, .inl (fun _ => 0)))), (q2, .inr (5, [.ref u2, .int 0])), (u2, .inl (cI, (24, .inl (fun _ => 0)))), (q3, .inr (5, [.ref u3, .int 0])), (u3, .inl (cI, (24, .inl (fun _ => 0)))), (q4, .inr (5, [.ref u4, .int 0])), (u4, .inl (cI, (24, .inl (fun _ => 0))))] H := hP
  have hD : va_D A [(h0, .inr (6, [.null, .ref q0, .ref q1, .ref q2, .ref q3, .ref q4, .null, .null, .int 0, .int 0, .int 0])), (q0, .inr (5, [.ref u0, .int 0])), (u0, .inl (cI, (24, .inl (fun _ => 0)))), (q1, .inr (5, [.ref u1, .int 0])), (u1, .inl (cI, (24, .inl (fun _ => 0)))), (q2, .inr (5, [.ref u2, .int 0])), (u2, .inl (cI, (24, .inl (fun _ => 0)))), (q3, .inr (5, [.ref u3, .int 0])), (u3, .inl (cI, (24, .inl (fun _ => 0)))), (q4, .inr (5, [.ref u4, .int 0])), (u4, .inl (cI, (24, .inl (fun _ => 0))))] := hD
  refine lv_aload_n hx hb dX6_init_69 rfl (lv_at hl 0 rfl) ?_
  refine va_new (ci := 5) (fs := [.null, .int 0]) (C := RX5) (T := TX5) (N := 2) hx hb hts hin5 tyX5 tyX5_ok hown (hts _ kx_classLink_RX6_9_RX5) (hts _ kx_instantiable_RX5_2) (hts _ kx_initialized_RX5) hK.1 hP hD hS hA rfl (fun j hj => by rcases (show j = 0 ∨ j = 1 by omega) with rfl | rfl <;> rfl) (Nat.le_of_ble_eq_true rfl) (Nat.le_of_ble_eq_true rfl) dX6_init_70 (fun q5 H hP hD hS => ?_)
  have hP : va_P D vwCl [(h0, .inr (6, [.null, .ref q0, .ref q1, .ref q2, .ref q3, .ref q4, .null, .null, .int 0, .int 0, .int 0])), (q0, .inr (5, [.ref u0, .int 0])), (u0, .inl (cI, (24, .inl (fun _ => 0)))), (q1, .inr (5, [.ref u1, .int 0])), (u1, .inl (cI, (24, .inl (fun _ => 0)))), (q2, .inr (5, [.ref u2, .int 0])), (u2, .inl (cI, (24, .inl (fun _ => 0)))), (q3, .inr (5, [.ref u3, .int 0])), (u3, .inl (cI, (24, .inl (fun _ => 0)))), (q4, .inr (5, [.ref u4, .int 0])), (u4, .inl (cI, (24, .inl (fun _ => 0)))), (q5, .inr (5, [.null, .int 0]))] H := hP
  have hD : va_D A [(h0, .inr (6, [.null, .ref q0, .ref q1, .ref q2, .ref q3, .ref q4, .null, .null, .int 0, .int 0, .int 0])), (q0, .inr (5, [.ref u0, .int 0])), (u0, .inl (cI, (24, .inl (fun _ => 0)))), (q1, .inr (5, [.ref u1, .int 0])), (u1, .inl (cI, (24, .inl (fun _ => 0)))), (q2, .inr (5, [.ref u2, .int 0])), (u2, .inl (cI, (24, .inl (fun _ => 0)))), (q3, .inr (5, [.ref u3, .int 0])), (u3, .inl (cI, (24, .inl (fun _ => 0)))), (q4, .inr (5, [.ref u4, .int 0])), (u4, .inl (cI, (24, .inl (fun _ => 0)))), (q5, .inr (5, [.null, .int 0]))] := hD
  refine W.widen (k := 11) (n := 132) (Nat.le_of_ble_eq_true rfl) (Nat.le_of_ble_eq_true rfl) ?_
  refine lv_dup hx hb dX6_init_73 rfl ?_
  refine lv_bipush (v := 24) hx hb dX6_init_74 (by decide) ?_
  have hPc := hP.sub (ws' := [(q5, .inr (5, [.null, .int 0]))]) [11] rfl
  have hDc := hD.sub (ws' := [(q5, .inr (5, [.null, .int 0]))]) [11] (by decide) rfl
  have hFc := va_free (wc := [(q5, .inr (5, [.null, .int 0]))]) hD hS hA [11] rfl
  refine va_callv (va_runI (As := [.int (nI 24)]) (rest := [.ref q5, .ref h0]) ⟨hx, hb, hml, hown, hts⟩ (c_X5_init l D cI cZ q5 H.size 24 (by decide)) (cw_X6_13 hts rfl rfl ⟨Nat.le_of_ble_eq_true rfl, Nat.le_of_ble_eq_true rfl⟩) (cv_pre hK hPc (hDc.weaken (fun _ _ _ _ => trivial))) rfl rfl hl.1 rfl (lv_room (Nat.le_of_ble_eq_true rfl)) dX6_init_76 ⟨Nat.le_of_ble_eq_true rfl, Nat.le_of_ble_eq_true rfl⟩) hS (fun q _ h => hFc q h) hFc (fun u5 t H1 locs ht hvm hw hB hz1 hk1 hS => ?_)
  obtain ⟨hP1, hD1⟩ := hB
  rw [ht] at hP1
  obtain ⟨hP, hD⟩ := va_join (wr := [(h0, .inr (6, [.null, .ref q0, .ref q1, .ref q2, .ref q3, .ref q4, .null, .null, .int 0, .int 0, .int 0])), (q0, .inr (5, [.ref u0, .int 0])), (u0, .inl (cI, (24, .inl (fun _ => 0)))), (q1, .inr (5, [.ref u1, .int 0])), (u1, .inl (cI, (24, .inl (fun _ => 0)))), (q2, .inr (5, [.ref u2, .int 0])), (u2, .inl (cI, (24, .inl (fun _ => 0)))), (q3, .inr (5, [.ref u3, .int 0])), (u3, .inl (cI, (24, .inl (fun _ => 0)))), (q4, .inr (5, [.ref u4, .int 0])), (u4, .inl (cI, (24, .inl (fun _ => 0))))]) (w1 := [(q5, .inr (5, [.ref u5, .int 0])), (u5, .inl (cI, (24, .inl (fun _ => 0))))]) hP hD [11] [0, 1, 2, 3, 4, 5, 6, 7, 8, 9, 10] rfl rfl (by decide) (by decide) hk1 hFc hP1 hD1
  generalize H1 = H at hP hS ⊢
  have hP : va_P D vwCl [(h0, .inr (6, [.null, .ref q0, .ref q1, .ref q2, .ref q3, .ref q4, .null, .null, .int 0, .int 0, .int 0])), (q0, .inr (5, [.ref u0, .int 0])), (u0, .inl (cI, (24, .inl (fun _ => 0)))), (q1, .inr (5, [.ref u1, .int 0])), (u1, .inl (cI, (24, .inl (fun _ => 0)))), (q2, .inr (5, [.ref u2, .int 0])), (u2, .inl (cI, (24, .inl (fun _ => 0)))), (q3, .inr (5, [.ref u3, .int 0])), (u3, .inl (cI, (24, .inl (fun _ => 0)))), (q4, .inr (5, [.ref u4, .int 0])), (u4, .inl (cI, (24, .inl (fun _ => 0)))), (q5, .inr (5, [.ref u5, .int 0])), (u5, .inl (cI, (24, .inl (fun _ => 0))))] H := hP
  have hD : va_D A [(h0, .inr (6, [.null, .ref q0, .ref q1, .ref q2, .ref q3, .ref q4, .null, .null, .int 0, .int 0, .int 0])), (q0, .inr (5, [.ref u0, .int 0])), (u0, .inl (cI, (24, .inl (fun _ => 0)))), (q1, .inr (5, [.ref u1, .int 0])), (u1, .inl (cI, (24, .inl (fun _ => 0)))), (q2, .inr (5, [.ref u2, .int 0])), (u2, .inl (cI, (24, .inl (fun _ => 0)))), (q3, .inr (5, [.ref u3, .int 0])), (u3, .inl (cI, (24, .inl (fun _ => 0)))), (q4, .inr (5, [.ref u4, .int 0])), (u4, .inl (cI, (24, .inl (fun _ => 0)))), (q5, .inr (5, [.ref u5, .int 0])), (u5, .inl (cI, (24, .inl (fun _ => 0))))] := hD
  refine W.widen (k := 12) (n := 156) (Nat.le_of_ble_eq_true rfl) (Nat.le_of_ble_eq_true rfl) ?_
  clear hPc hDc hFc hP1 hD1 hk1 hz1 hw
  refine va_putF (D := D) (ci := 6) (v := .ref q5) (ty := .object "TwigsAndStones$Row") (C := RX6) (T := TX6) (N := 11) hx hb hts hin6 tyX6 tyX6_ok nmX6 hown hK.1 hP hD hS 0 rfl rfl 6 (by decide) (hts _ fl_X6_32) (fun _ h9 => h9) rfl hin rfl (by decide +kernel) rfl rfl (Nat.le_of_ble_eq_true rfl) dX6_init_79 (fun H locs hP hD hS => ?_)
  have hP : va_P D vwCl [(h0, .inr (6, [.null, .ref q0, .ref q1, .ref q2, .ref q3, .ref q4, .ref q5, .null, .int 0, .int 0, .int 0])), (q0, .inr (5, [.ref u0, .int 0])), (u0, .inl (cI, (24, .inl (fun _ => 0)))), (q1, .inr (5, [.ref u1, .int 0])), (u1, .inl (cI, (24, .inl (fun _ => 0)))), (q2, .inr (5, [.ref u2, .int 0])), (u2, .inl (cI, (24, .inl (fun _ => 0)))), (q3, .inr (5, [.ref u3, .int 0])), (u3, .inl (cI, (24, .inl (fun _ => 0)))), (q4, .inr (5, [.ref u4, .int 0])), (u4, .inl (cI, (24, .inl (fun _ => 0)))), (q5, .inr (5, [.ref u5, .int 0])), (u5, .inl (cI, (24, .inl (fun _ => 0))))] H := hP
  have hD : va_D A [(h0, .inr (6, [.null, .ref q0, .ref q1, .ref q2, .ref q3, .ref q4, .ref q5, .null, .int 0, .int 0, .int 0])), (q0, .inr (5, [.ref u0, .int 0])), (u0, .inl (cI, (24, .inl (fun _ => 0)))), (q1, .inr (5, [.ref u1, .int 0])), (u1, .inl (cI, (24, .inl (fun _ => 0)))), (q2, .inr (5, [.ref u2, .int 0])), (u2, .inl (cI, (24, .inl (fun _ => 0)))), (q3, .inr (5, [.ref u3, .int 0])), (u3, .inl (cI, (24, .inl (fun _ => 0)))), (q4, .inr (5, [.ref u4, .int 0])), (u4, .inl (cI, (24, .inl (fun _ => 0)))), (q5, .inr (5, [.ref u5, .int 0])), (u5, .inl (cI, (24, .inl (fun _ => 0))))] := hD
  refine lv_aload_n hx hb dX6_init_82 rfl (lv_at hl 0 rfl) ?_
  refine va_new (ci := 5) (fs := [.null, .int 0]) (C := RX5) (T := TX5) (N := 2) hx hb hts hin5 tyX5 tyX5_ok hown (hts _ kx_classLink_RX6_9_RX5) (hts _ kx_instantiable_RX5_2) (hts _ kx_initialized_RX5) hK.1 hP hD hS hA rfl (fun j hj => by rcases (show j = 0 ∨ j = 1 by omega) with rfl | rfl <;> rfl) (Nat.le_of_ble_eq_true rfl) (Nat.le_of_ble_eq_true rfl) dX6_init_83 (fun q6 H hP hD hS => ?_)
  have hP : va_P D vwCl [(h0, .inr (6, [.null, .ref q0, .ref q1, .ref q2, .ref q3, .ref q4, .ref q5, .null, .int 0, .int 0, .int 0])), (q0, .inr (5, [.ref u0, .int 0])), (u0, .inl (cI, (24, .inl (fun _ => 0)))), (q1, .inr (5, [.ref u1, .int 0])), (u1, .inl (cI, (24, .inl (fun _ => 0)))), (q2, .inr (5, [.ref u2, .int 0])), (u2, .inl (cI, (24, .inl (fun _ => 0)))), (q3, .inr (5, [.ref u3, .int 0])), (u3, .inl (cI, (24, .inl (fun _ => 0)))), (q4, .inr (5, [.ref u4, .int 0])), (u4, .inl (cI, (24, .inl (fun _ => 0)))), (q5, .inr (5, [.ref u5, .int 0])), (u5, .inl (cI, (24, .inl (fun _ => 0)))), (q6, .inr (5, [.null, .int 0]))] H := hP
  have hD : va_D A [(h0, .inr (6, [.null, .ref q0, .ref q1, .ref q2, .ref q3, .ref q4, .ref q5, .null, .int 0, .int 0, .int 0])), (q0, .inr (5, [.ref u0, .int 0])), (u0, .inl (cI, (24, .inl (fun _ => 0)))), (q1, .inr (5, [.ref u1, .int 0])), (u1, .inl (cI, (24, .inl (fun _ => 0)))), (q2, .inr (5, [.ref u2, .int 0])), (u2, .inl (cI, (24, .inl (fun _ => 0)))), (q3, .inr (5, [.ref u3, .int 0])), (u3, .inl (cI, (24, .inl (fun _ => 0)))), (q4, .inr (5, [.ref u4, .int 0])), (u4, .inl (cI, (24, .inl (fun _ => 0)))), (q5, .inr (5, [.ref u5, .int 0])), (u5, .inl (cI, (24, .inl (fun _ => 0)))), (q6, .inr (5, [.null, .int 0]))] := hD
  refine W.widen (k := 13) (n := 158) (Nat.le_of_ble_eq_true rfl) (Nat.le_of_ble_eq_true rfl) ?_
  refine lv_dup hx hb dX6_init_86 rfl ?_
  refine lv_bipush (v := 24) hx hb dX6_init_87 (by decide) ?_
  have hPc := hP.sub (ws' := [(q6, .inr (5, [.null, .int 0]))]) [13] rfl
  have hDc := hD.sub (ws' := [(q6, .inr (5, [.null, .int 0]))]) [13] (by decide) rfl
  have hFc := va_free (wc := [(q6, .inr (5, [.null, .int 0]))]) hD hS hA [13] rfl
  refine va_callv (va_runI (As := [.int (nI 24)]) (rest := [.ref q6, .ref h0]) ⟨hx, hb, hml, hown, hts⟩ (c_X5_init l D cI cZ q6 H.size 24 (by decide)) (cw_X6_13 hts rfl rfl ⟨Nat.le_of_ble_eq_true rfl, Nat.le_of_ble_eq_true rfl⟩) (cv_pre hK hPc (hDc.weaken (fun _ _ _ _ => trivial))) rfl rfl hl.1 rfl (lv_room (Nat.le_of_ble_eq_true rfl)) dX6_init_89 ⟨Nat.le_of_ble_eq_true rfl, Nat.le_of_ble_eq_true rfl⟩) hS (fun q _ h => hFc q h) hFc (fun u6 t H1 locs ht hvm hw hB hz1 hk1 hS => ?_)
  obtain ⟨hP1, hD1⟩ := hB
  rw [ht] at hP1
  obtain ⟨hP, hD⟩ := va_join (wr := [(h0, .inr (6, [.null, .ref q0, .ref q1, .ref q2, .ref q3, .ref q4, .ref q5, .null, .int 0, .int 0, .int 0])), (q0, .inr (5, [.ref u0, .int 0])), (u0, .inl (cI, (24, .inl (fun _ => 0)))), (q1, .inr (5, [.ref u1, .int 0])), (u1, .inl (cI, (24, .inl (fun _ => 0)))), (q2, .inr (5, [.ref u2, .int 0])), (u2, .inl (cI, (24, .inl (fun _ => 0)))), (q3, .inr (5, [.ref u3, .int 0])), (u3, .inl (cI, (24, .inl (fun _ => 0)))), (q4, .inr (5, [.ref u4, .int 0])), (u4, .inl (cI, (24, .inl (fun _ => 0)))), (q5, .inr (5, [.ref u5, .int 0])), (u5, .inl (cI, (24, .inl (fun _ => 0))))]) (w1 := [(q6, .inr (5, [.ref u6, .int 0])), (u6, .inl (cI, (24, .inl (fun _ => 0))))]) hP hD [13] [0, 1, 2, 3, 4, 5, 6, 7, 8, 9, 10, 11, 12] rfl rfl (by decide) (by decide) hk1 hFc hP1 hD1
  generalize H1 = H at hP hS ⊢
  have hP : va_P D vwCl [(h0, .inr (6, [.null, .ref q0, .ref q1, .ref q2, .ref q3, .ref q4, .ref q5, .null, .int 0, .int 0, .int 0])), (q0, .inr (5, [.ref u0, .int 0])), (u0, .inl (cI, (24, .inl (fun _ => 0)))), (q1, .inr (5, [.ref u1, .int 0])), (u1, .inl (cI, (24, .inl (fun _ => 0)))), (q2, .inr (5, [.ref u2, .int 0])), (u2, .inl (cI, (24, .inl (fun _ => 0)))), (q3, .inr (5, [.ref u3, .int 0])), (u3, .inl (cI, (24, .inl (fun _ => 0)))), (q4, .inr (5, [.ref u4, .int 0])), (u4, .inl (cI, (24, .inl (fun _ => 0)))), (q5, .inr (5, [.ref u5, .int 0])), (u5, .inl (cI, (24, .inl (fun _ => 0)))), (q6, .inr (5, [.ref u6, .int 0])), (u6, .inl (cI, (24, .inl (fun _ => 0))))] H := hP
  have hD : va_D A [(h0, .inr (6, [.null, .ref q0, .ref q1, .ref q2, .ref q3, .ref q4, .ref q5, .null, .int 0, .int 0, .int 0])), (q0, .inr (5, [.ref u0, .int 0])), (u0, .inl (cI, (24, .inl (fun _ => 0)))), (q1, .inr (5, [.ref u1, .int 0])), (u1, .inl (cI, (24, .inl (fun _ => 0)))), (q2, .inr (5, [.ref u2, .int 0])), (u2, .inl (cI, (24, .inl (fun _ => 0)))), (q3, .inr (5, [.ref u3, .int 0])), (u3, .inl (cI, (24, .inl (fun _ => 0)))), (q4, .inr (5, [.ref u4, .int 0])), (u4, .inl (cI, (24, .inl (fun _ => 0)))), (q5, .inr (5, [.ref u5, .int 0])), (u5, .inl (cI, (24, .inl (fun _ => 0)))), (q6, .inr (5, [.ref u6, .int 0])), (u6, .inl (cI, (24, .inl (fun _ => 0))))] := hD
  refine W.widen (k := 14) (n := 182) (Nat.le_of_ble_eq_true rfl) (Nat.le_of_ble_eq_true rfl) ?_
  clear hPc hDc hFc hP1 hD1 hk1 hz1 hw
  refine va_putF (D := D) (ci := 6) (v := .ref q6) (ty := .object "TwigsAndStones$Row") (C := RX6) (T := TX6) (N := 11) hx hb hts hin6 tyX6 tyX6_ok nmX6 hown hK.1 hP hD hS 0 rfl rfl 7 (by decide) (hts _ fl_X6_35) (fun _ h9 => h9) rfl hin rfl (by decide +kernel) rfl rfl (Nat.le_of_ble_eq_true rfl) dX6_init_92 (fun H locs hP hD hS => ?_)
  have hP : va_P D vwCl [(h0, .inr (6, [.null, .ref q0, .ref q1, .ref q2, .ref q3, .ref q4, .ref q5, .ref q6, .int 0, .int 0, .int 0])), (q0, .inr (5, [.ref u0, .int 0])), (u0, .inl (cI, (24, .inl (fun _ => 0)))), (q1, .inr (5, [.ref u1, .int 0])), (u1, .inl (cI, (24, .inl (fun _ => 0)))), (q2, .inr (5, [.ref u2, .int 0])), (u2, .inl (cI, (24, .inl (fun _ => 0)))), (q3, .inr (5, [.ref u3, .int 0])), (u3, .inl (cI, (24, .inl (fun _ => 0)))), (q4, .inr (5, [.ref u4, .int 0])), (u4, .inl (cI, (24, .inl (fun _ => 0)))), (q5, .inr (5, [.ref u5, .int 0])), (u5, .inl (cI, (24, .inl (fun _ => 0)))), (q6, .inr (5, [.ref u6, .int 0])), (u6, .inl (cI, (24, .inl (fun _ => 0))))] H := hP
  have hD : va_D A [(h0, .inr (6, [.null, .ref q0, .ref q1, .ref q2, .ref q3, .ref q4, .ref q5, .ref q6, .int 0, .int 0, .int 0])), (q0, .inr (5, [.ref u0, .int 0])), (u0, .inl (cI, (24, .inl (fun _ => 0)))), (q1, .inr (5, [.ref u1, .int 0])), (u1, .inl (cI, (24, .inl (fun _ => 0)))), (q2, .inr (5, [.ref u2, .int 0])), (u2, .inl (cI, (24, .inl (fun _ => 0)))), (q3, .inr (5, [.ref u3, .int 0])), (u3, .inl (cI, (24, .inl (fun _ => 0)))), (q4, .inr (5, [.ref u4, .int 0])), (u4, .inl (cI, (24, .inl (fun _ => 0)))), (q5, .inr (5, [.ref u5, .int 0])), (u5, .inl (cI, (24, .inl (fun _ => 0)))), (q6, .inr (5, [.ref u6, .int 0])), (u6, .inl (cI, (24, .inl (fun _ => 0))))] := hD
  refine lv_aload_n hx hb dX6_init_95 rfl (lv_at hl 0 rfl) ?_
  refine lv_iconst (v := 0) hx hb dX6_init_96 (by decide) ?_
  refine va_put (D := D) (ci := 6) (v := .int 0) (ty := .int) (C := RX6) (T := TX6) (N := 11) hx hb hts hin6 tyX6 tyX6_ok nmX6 hown hK.1 hP hD hS 0 rfl rfl 8 (by decide) (hts _ fl_X6_38) (fun _ h9 => h9) rfl (by decide +kernel) rfl rfl (Nat.le_of_ble_eq_true rfl) dX6_init_97 (fun H locs hP hD hS => ?_)
  have hP : va_P D vwCl [(h0, .inr (6, [.null, .ref q0, .ref q1, .ref q2, .ref q3, .ref q4, .ref q5, .ref q6, .int 0, .int 0, .int 0])), (q0, .inr (5, [.ref u0, .int 0])), (u0, .inl (cI, (24, .inl (fun _ => 0)))), (q1, .inr (5, [.ref u1, .int 0])), (u1, .inl (cI, (24, .inl (fun _ => 0)))), (q2, .inr (5, [.ref u2, .int 0])), (u2, .inl (cI, (24, .inl (fun _ => 0)))), (q3, .inr (5, [.ref u3, .int 0])), (u3, .inl (cI, (24, .inl (fun _ => 0)))), (q4, .inr (5, [.ref u4, .int 0])), (u4, .inl (cI, (24, .inl (fun _ => 0)))), (q5, .inr (5, [.ref u5, .int 0])), (u5, .inl (cI, (24, .inl (fun _ => 0)))), (q6, .inr (5, [.ref u6, .int 0])), (u6, .inl (cI, (24, .inl (fun _ => 0))))] H := hP
  have hD : va_D A [(h0, .inr (6, [.null, .ref q0, .ref q1, .ref q2, .ref q3, .ref q4, .ref q5, .ref q6, .int 0, .int 0, .int 0])), (q0, .inr (5, [.ref u0, .int 0])), (u0, .inl (cI, (24, .inl (fun _ => 0)))), (q1, .inr (5, [.ref u1, .int 0])), (u1, .inl (cI, (24, .inl (fun _ => 0)))), (q2, .inr (5, [.ref u2, .int 0])), (u2, .inl (cI, (24, .inl (fun _ => 0)))), (q3, .inr (5, [.ref u3, .int 0])), (u3, .inl (cI, (24, .inl (fun _ => 0)))), (q4, .inr (5, [.ref u4, .int 0])), (u4, .inl (cI, (24, .inl (fun _ => 0)))), (q5, .inr (5, [.ref u5, .int 0])), (u5, .inl (cI, (24, .inl (fun _ => 0)))), (q6, .inr (5, [.ref u6, .int 0])), (u6, .inl (cI, (24, .inl (fun _ => 0))))] := hD
  refine lv_aload_n hx hb dX6_init_100 rfl (lv_at hl 0 rfl) ?_
  refine lv_iconst (v := 0) hx hb dX6_init_101 (by decide) ?_
  refine va_put (D := D) (ci := 6) (v := .int 0) (ty := .int) (C := RX6) (T := TX6) (N := 11) hx hb hts hin6 tyX6 tyX6_ok nmX6 hown hK.1 hP hD hS 0 rfl rfl 9 (by decide) (hts _ fl_X6_42) (fun _ h9 => h9) rfl (by decide +kernel) rfl rfl (Nat.le_of_ble_eq_true rfl) dX6_init_102 (fun H locs hP hD hS => ?_)
  have hP : va_P D vwCl [(h0, .inr (6, [.null, .ref q0, .ref q1, .ref q2, .ref q3, .ref q4, .ref q5, .ref q6, .int 0, .int 0, .int 0])), (q0, .inr (5, [.ref u0, .int 0])), (u0, .inl (cI, (24, .inl (fun _ => 0)))), (q1, .inr (5, [.ref u1, .int 0])), (u1, .inl (cI, (24, .inl (fun _ => 0)))), (q2, .inr (5, [.ref u2, .int 0])), (u2, .inl (cI, (24, .inl (fun _ => 0)))), (q3, .inr (5, [.ref u3, .int 0])), (u3, .inl (cI, (24, .inl (fun _ => 0)))), (q4, .inr (5, [.ref u4, .int 0])), (u4, .inl (cI, (24, .inl (fun _ => 0)))), (q5, .inr (5, [.ref u5, .int 0])), (u5, .inl (cI, (24, .inl (fun _ => 0)))), (q6, .inr (5, [.ref u6, .int 0])), (u6, .inl (cI, (24, .inl (fun _ => 0))))] H := hP
  have hD : va_D A [(h0, .inr (6, [.null, .ref q0, .ref q1, .ref q2, .ref q3, .ref q4, .ref q5, .ref q6, .int 0, .int 0, .int 0])), (q0, .inr (5, [.ref u0, .int 0])), (u0, .inl (cI, (24, .inl (fun _ => 0)))), (q1, .inr (5, [.ref u1, .int 0])), (u1, .inl (cI, (24, .inl (fun _ => 0)))), (q2, .inr (5, [.ref u2, .int 0])), (u2, .inl (cI, (24, .inl (fun _ => 0)))), (q3, .inr (5, [.ref u3, .int 0])), (u3, .inl (cI, (24, .inl (fun _ => 0)))), (q4, .inr (5, [.ref u4, .int 0])), (u4, .inl (cI, (24, .inl (fun _ => 0)))), (q5, .inr (5, [.ref u5, .int 0])), (u5, .inl (cI, (24, .inl (fun _ => 0)))), (q6, .inr (5, [.ref u6, .int 0])), (u6, .inl (cI, (24, .inl (fun _ => 0))))] := hD
  refine lv_aload_n hx hb dX6_init_105 rfl (lv_at hl 0 rfl) ?_
  refine lv_iconst (v := 0) hx hb dX6_init_106 (by decide) ?_
  refine va_put (D := D) (ci := 6) (v := .int 0) (ty := .int) (C := RX6) (T := TX6) (N := 11) hx hb hts hin6 tyX6 tyX6_ok nmX6 hown hK.1 hP hD hS 0 rfl rfl 10 (by decide) (hts _ fl_X6_45) (fun _ h9 => h9) rfl (by decide +kernel) rfl rfl (Nat.le_of_ble_eq_true rfl) dX6_init_107 (fun H locs hP hD hS => ?_)
  have hP : va_P D vwCl [(h0, .inr (6, [.null, .ref q0, .ref q1, .ref q2, .ref q3, .ref q4, .ref q5, .ref q6, .int 0, .int 0, .int 0])), (q0, .inr (5, [.ref u0, .int 0])), (u0, .inl (cI, (24, .inl (fun _ => 0)))), (q1, .inr (5, [.ref u1, .int 0])), (u1, .inl (cI, (24, .inl (fun _ => 0)))), (q2, .inr (5, [.ref u2, .int 0])), (u2, .inl (cI, (24, .inl (fun _ => 0)))), (q3, .inr (5, [.ref u3, .int 0])), (u3, .inl (cI, (24, .inl (fun _ => 0)))), (q4, .inr (5, [.ref u4, .int 0])), (u4, .inl (cI, (24, .inl (fun _ => 0)))), (q5, .inr (5, [.ref u5, .int 0])), (u5, .inl (cI, (24, .inl (fun _ => 0)))), (q6, .inr (5, [.ref u6, .int 0])), (u6, .inl (cI, (24, .inl (fun _ => 0))))] H := hP
  have hD : va_D A [(h0, .inr (6, [.null, .ref q0, .ref q1, .ref q2, .ref q3, .ref q4, .ref q5, .ref q6, .int 0, .int 0, .int 0])), (q0, .inr (5, [.ref u0, .int 0])), (u0, .inl (cI, (24, .inl (fun _ => 0)))), (q1, .inr (5, [.ref u1, .int 0])), (u1, .inl (cI, (24, .inl (fun _ => 0)))), (q2, .inr (5, [.ref u2, .int 0])), (u2, .inl (cI, (24, .inl (fun _ => 0)))), (q3, .inr (5, [.ref u3, .int 0])), (u3, .inl (cI, (24, .inl (fun _ => 0)))), (q4, .inr (5, [.ref u4, .int 0])), (u4, .inl (cI, (24, .inl (fun _ => 0)))), (q5, .inr (5, [.ref u5, .int 0])), (u5, .inl (cI, (24, .inl (fun _ => 0)))), (q6, .inr (5, [.ref u6, .int 0])), (u6, .inl (cI, (24, .inl (fun _ => 0))))] := hD
  refine lv_aload_n hx hb dX6_init_110 rfl (lv_at hl 0 rfl) ?_
  refine lv_aload_n hx hb dX6_init_111 rfl (lv_at hl 1 rfl) ?_
  refine va_putF (D := D) (ci := 6) (v := .ref x1) (ty := .object "TwigsAndStones$Net") (C := RX6) (T := TX6) (N := 11) hx hb hts hin6 tyX6 tyX6_ok nmX6 hown hK.1 hP hD hS 0 rfl rfl 0 (by decide) (hts _ fl_X6_48) (fun _ h9 => h9) rfl hin rfl (by decide +kernel) rfl rfl (Nat.le_of_ble_eq_true rfl) dX6_init_112 (fun H locs hP hD hS => ?_)
  have hP : va_P D vwCl [(h0, .inr (6, [.ref x1, .ref q0, .ref q1, .ref q2, .ref q3, .ref q4, .ref q5, .ref q6, .int 0, .int 0, .int 0])), (q0, .inr (5, [.ref u0, .int 0])), (u0, .inl (cI, (24, .inl (fun _ => 0)))), (q1, .inr (5, [.ref u1, .int 0])), (u1, .inl (cI, (24, .inl (fun _ => 0)))), (q2, .inr (5, [.ref u2, .int 0])), (u2, .inl (cI, (24, .inl (fun _ => 0)))), (q3, .inr (5, [.ref u3, .int 0])), (u3, .inl (cI, (24, .inl (fun _ => 0)))), (q4, .inr (5, [.ref u4, .int 0])), (u4, .inl (cI, (24, .inl (fun _ => 0)))), (q5, .inr (5, [.ref u5, .int 0])), (u5, .inl (cI, (24, .inl (fun _ => 0)))), (q6, .inr (5, [.ref u6, .int 0])), (u6, .inl (cI, (24, .inl (fun _ => 0))))] H := hP
  have hD : va_D A [(h0, .inr (6, [.ref x1, .ref q0, .ref q1, .ref q2, .ref q3, .ref q4, .ref q5, .ref q6, .int 0, .int 0, .int 0])), (q0, .inr (5, [.ref u0, .int 0])), (u0, .inl (cI, (24, .inl (fun _ => 0)))), (q1, .inr (5, [.ref u1, .int 0])), (u1, .inl (cI, (24, .inl (fun _ => 0)))), (q2, .inr (5, [.ref u2, .int 0])), (u2, .inl (cI, (24, .inl (fun _ => 0)))), (q3, .inr (5, [.ref u3, .int 0])), (u3, .inl (cI, (24, .inl (fun _ => 0)))), (q4, .inr (5, [.ref u4, .int 0])), (u4, .inl (cI, (24, .inl (fun _ => 0)))), (q5, .inr (5, [.ref u5, .int 0])), (u5, .inl (cI, (24, .inl (fun _ => 0)))), (q6, .inr (5, [.ref u6, .int 0])), (u6, .inl (cI, (24, .inl (fun _ => 0))))] := hD
  refine W.widen (k := 14) (n := 182) (Nat.le_of_ble_eq_true rfl) (Nat.le_of_ble_eq_true rfl) ?_
  exact W.vret hx hb hr (fun t ht hW => ⟨⟨adr [q0, u0, q1, u1, q2, u2, q3, u3, q4, u4, q5, u5, q6, u6], rfl, trivial, by rw [ht]; exact hP, hD⟩, hS.F ht⟩) hS.2.2 dX6_init_115

set_option maxHeartbeats 4000000 in
set_option maxRecDepth 100000 in
theorem c_X2_init (l : Launch) (D : va_G) (cI cZ : ClassId) (h0 sz : Nat) : CV l D cI cZ yX2_init wyX2_init ({ frames := 2, cells := 8, slots := 66, locals := 43 } : Room) [.ref h0] [(h0, .inr (2, [.null, .null, .null, .null]))] sz (fun u : Nat → Nat => [(h0, .inr (2, [.ref (u 0), .ref (u 2), .ref (u 4), .ref (u 6)])), ((u 0), .inr (5, [.ref (u 1), .int 0])), ((u 1), .inl (cI, (16, .inl (fun _ => 0)))), ((u 2), .inr (5, [.ref (u 3), .int 0])), ((u 3), .inl (cI, (16, .inl (fun _ => 0)))), ((u 4), .inr (5, [.ref (u 5), .int 0])), ((u 5), .inl (cI, (16, .inl (fun _ => 0)))), ((u 6), .inr (5, [.ref (u 7), .int (nI 10)])), ((u 7), .inl (cI, (10, .inl (fun _ => 0))))]) 8 66 := by
  refine Met.ofW (cc := cX2_init) (maxL := 1) (ret := none) (by decide) rfl ?_
  intro p e s m args below meth c s₁ B hml hv
  obtain ⟨rfl, hsz, hK, hP, hD0⟩ := hv
  have hx := B.exec
  have hb := B.bytes
  have hr := B.returns
  have hts0 := atoms_spec (ws := wyX2_init) B.pre
  have hts : ∀ w ∈ big, w.before _ s = true := fun w h => hts0 w (List.mem_cons_of_mem _ h)
  have hown : s.vm.findClass RX2 = some m.cls := findClass_of_methodNamed B.named
  have hlocks := B.notSynchronized
  have hin : meth.name = "<init>" := (name_of_methodNamed B.named B.method).1
  subst hsz
  have hD := hD0.self (sz := s.heap.size)
  generalize hAe : va_A [(h0, .inr (2, [.null, .null, .null, .null]))] s.heap.size = A at hD ⊢
  have hA : ∀ q : Nat, s.heap.size ≤ q → A q := fun q h => by rw [← hAe]; exact Or.inr h
  have hS : va_S A s.heap s.heap [] := va_S.rf
  have hl := lv_entry ([.ref h0]) (n := 1) (Nat.le_of_ble_eq_true rfl)
  rw [lg_entry_eq]
  generalize (lg_sl ([.ref h0]) ++ List.replicate (1 - (lg_sl ([.ref h0])).length) Slot.unset).toArray = ls at hl ⊢
  have hl : lv_has ls 1 [(0, .ref h0)] := hl
  refine lv_aload_n hx hb dX2_init_0 rfl (lv_at hl 0 rfl) ?_
  refine W.objInit hx hb hown (hts _ ml_X2_3) (hts _ kx_oi) (hts _ kx_oc) rfl (by rw [hml]; exact hl.1) rfl dX2_init_1 (Nat.le_of_ble_eq_true rfl) (Nat.le_of_ble_eq_true rfl) ?_
  refine W.eq (g2 := F0 m 4 ls []) rfl ?_
  refine lv_aload_n hx hb dX2_init_4 rfl (lv_at hl 0 rfl) ?_
  refine va_new (ci := 5) (fs := [.null, .int 0]) (C := RX5) (T := TX5) (N := 2) hx hb hts hin5 tyX5 tyX5_ok hown (hts _ kx_classLink_RX2_9_RX5) (hts _ kx_instantiable_RX5_2) (hts _ kx_initialized_RX5) hK.1 hP hD hS hA rfl (fun j hj => by rcases (show j = 0 ∨ j = 1 by omega) with rfl | rfl <;> rfl) (Nat.le_of_ble_eq_true rfl) (Nat.le_of_ble_eq_true rfl) dX2_init_5 (fun q0 H hP hD hS => ?_)
  have hP : va_P D vwCl [(h0, .inr (2, [.null, .null, .null, .null])), (q0, .inr (5, [.null, .int 0]))] H := hP
  have hD : va_D A [(h0, .inr (2, [.null, .null, .null, .null])), (q0, .inr (5, [.null, .int 0]))] := hD
  refine W.widen (k := 1) (n := 2) (Nat.le_of_ble_eq_true rfl) (Nat.le_of_ble_eq_true rfl) ?_
  refine lv_dup hx hb dX2_init_8 rfl ?_
  refine lv_bipush (v := 16) hx hb dX2_init_9 (by decide) ?_
  have hPc := hP.sub (ws' := [(q0, .inr (5, [.null, .int 0]))]) [1] rfl
  have hDc := hD.sub (ws' := [(q0, .inr (5, [.null, .int 0]))]) [1] (by decide) rfl
  have hFc := va_free (wc := [(q0, .inr (5, [.null, .int 0]))]) hD hS hA [1] rfl
  refine va_callv (va_runI (As := [.int (nI 16)]) (rest := [.ref q0, .ref h0]) ⟨hx, hb, hml, hown, hts⟩ (c_X5_init l D cI cZ q0 H.size 16 (by decide)) (cw_X2_11 hts rfl rfl ⟨Nat.le_of_ble_eq_true rfl, Nat.le_of_ble_eq_true rfl⟩) (cv_pre hK hPc (hDc.weaken (fun _ _ _ _ => trivial))) rfl rfl hl.1 rfl (lv_room (Nat.le_of_ble_eq_true rfl)) dX2_init_11 ⟨Nat.le_of_ble_eq_true rfl, Nat.le_of_ble_eq_true rfl⟩) hS (fun q _ h => hFc q h) hFc (fun u0 t H1 locs ht hvm hw hB hz1 hk1 hS => ?_)
  obtain ⟨hP1, hD1⟩ := hB
  rw [ht] at hP1
  obtain ⟨hP, hD⟩ := va_join (wr := [(h0, .inr (2, [.null, .null, .null, .null]))]) (w1 := [(q0, .inr (5, [.ref u0, .int 0])), (u0, .inl (cI, (16, .inl (fun _ => 0))))]) hP hD [1] [0] rfl rfl (by decide) (by decide) hk1 hFc hP1 hD1
  generalize H1 = H at hP hS ⊢
  have hP : va_P D vwCl [(h0, .inr (2, [.null, .null, .null, .null])), (q0, .inr (5, [.ref u0, .int 0])), (u0, .inl (cI, (16, .inl (fun _ => 0))))] H := hP
  have hD : va_D A [(h0, .inr (2, [.null, .null, .null, .null])), (q0, .inr (5, [.ref u0, .int 0])), (u0, .inl (cI, (16, .inl (fun _ => 0))))] := hD
  refine W.widen (k := 2) (n := 18) (Nat.le_of_ble_eq_true rfl) (Nat.le_of_ble_eq_true rfl) ?_
  clear hPc hDc hFc hP1 hD1 hk1 hz1 hw
  refine va_putF (D := D) (ci := 2) (v := .ref q0) (ty := .object "TwigsAndStones$Row") (C := RX2) (T := TX2) (N := 4) hx hb hts hin2 tyX2 tyX2_ok nmX2 hown hK.1 hP hD hS 0 rfl rfl 0 (by decide) (hts _ fl_X2_14) (fun _ h9 => h9) rfl hin rfl (by decide +kernel) rfl rfl (Nat.le_of_ble_eq_true rfl) dX2_init_14 (fun H locs hP hD hS => ?_)
  have hP : va_P D vwCl [(h0, .inr (2, [.ref q0, .null, .null, .null])), (q0, .inr (5, [.ref u0, .int 0])), (u0, .inl (cI, (16, .inl (fun _ => 0))))] H := hP
  have hD : va_D A [(h0, .inr (2, [.ref q0, .null, .null, .null])), (q0, .inr (5, [.ref u0, .int 0])), (u0, .inl (cI, (16, .inl (fun _ => 0))))] := hD
  refine lv_aload_n hx hb dX2_init_17 rfl (lv_at hl 0 rfl) ?_
  refine va_new (ci := 5) (fs := [.null, .int 0]) (C := RX5) (T := TX5) (N := 2) hx hb hts hin5 tyX5 tyX5_ok hown (hts _ kx_classLink_RX2_9_RX5) (hts _ kx_instantiable_RX5_2) (hts _ kx_initialized_RX5) hK.1 hP hD hS hA rfl (fun j hj => by rcases (show j = 0 ∨ j = 1 by omega) with rfl | rfl <;> rfl) (Nat.le_of_ble_eq_true rfl) (Nat.le_of_ble_eq_true rfl) dX2_init_18 (fun q1 H hP hD hS => ?_)
  have hP : va_P D vwCl [(h0, .inr (2, [.ref q0, .null, .null, .null])), (q0, .inr (5, [.ref u0, .int 0])), (u0, .inl (cI, (16, .inl (fun _ => 0)))), (q1, .inr (5, [.null, .int 0]))] H := hP
  have hD : va_D A [(h0, .inr (2, [.ref q0, .null, .null, .null])), (q0, .inr (5, [.ref u0, .int 0])), (u0, .inl (cI, (16, .inl (fun _ => 0)))), (q1, .inr (5, [.null, .int 0]))] := hD
  refine W.widen (k := 3) (n := 20) (Nat.le_of_ble_eq_true rfl) (Nat.le_of_ble_eq_true rfl) ?_
  refine lv_dup hx hb dX2_init_21 rfl ?_
  refine lv_bipush (v := 16) hx hb dX2_init_22 (by decide) ?_
  have hPc := hP.sub (ws' := [(q1, .inr (5, [.null, .int 0]))]) [3] rfl
  have hDc := hD.sub (ws' := [(q1, .inr (5, [.null, .int 0]))]) [3] (by decide) rfl
  have hFc := va_free (wc := [(q1, .inr (5, [.null, .int 0]))]) hD hS hA [3] rfl
  refine va_callv (va_runI (As := [.int (nI 16)]) (rest := [.ref q1, .ref h0]) ⟨hx, hb, hml, hown, hts⟩ (c_X5_init l D cI cZ q1 H.size 16 (by decide)) (cw_X2_11 hts rfl rfl ⟨Nat.le_of_ble_eq_true rfl, Nat.le_of_ble_eq_true rfl⟩) (cv_pre hK hPc (hDc.weaken (fun _ _ _ _ => trivial))) rfl rfl hl.1 rfl (lv_room (Nat.le_of_ble_eq_true rfl)) dX2_init_24 ⟨Nat.le_of_ble_eq_true rfl, Nat.le_of_ble_eq_true rfl⟩) hS (fun q _ h => hFc q h) hFc (fun u1 t H1 locs ht hvm hw hB hz1 hk1 hS => ?_)
  obtain ⟨hP1, hD1⟩ := hB
  rw [ht] at hP1
  obtain ⟨hP, hD⟩ := va_join (wr := [(h0, .inr (2, [.ref q0, .null, .null, .null])), (q0, .inr (5, [.ref u0, .int 0])), (u0, .inl (cI, (16, .inl (fun _ => 0))))]) (w1 := [(q1, .inr (5, [.ref u1, .int 0])), (u1, .inl (cI, (16, .inl (fun _ => 0))))]) hP hD [3] [0, 1, 2] rfl rfl (by decide) (by decide) hk1 hFc hP1 hD1
  generalize H1 = H at hP hS ⊢
  have hP : va_P D vwCl [(h0, .inr (2, [.ref q0, .null, .null, .null])), (q0, .inr (5, [.ref u0, .int 0])), (u0, .inl (cI, (16, .inl (fun _ => 0)))), (q1, .inr (5, [.ref u1, .int 0])), (u1, .inl (cI, (16, .inl (fun _ => 0))))] H := hP
  have hD : va_D A [(h0, .inr (2, [.ref q0, .null, .null, .null])), (q0, .inr (5, [.ref u0, .int 0])), (u0, .inl (cI, (16, .inl (fun _ => 0)))), (q1, .inr (5, [.ref u1, .int 0])), (u1, .inl (cI, (16, .inl (fun _ => 0))))] := hD
  refine W.widen (k := 4) (n := 36) (Nat.le_of_ble_eq_true rfl) (Nat.le_of_ble_eq_true rfl) ?_
  clear hPc hDc hFc hP1 hD1 hk1 hz1 hw
  refine va_putF (D := D) (ci := 2) (v := .ref q1) (ty := .object "TwigsAndStones$Row") (C := RX2) (T := TX2) (N := 4) hx hb hts hin2 tyX2 tyX2_ok nmX2 hown hK.1 hP hD hS 0 rfl rfl 1 (by decide) (hts _ fl_X2_20) (fun _ h9 => h9) rfl hin rfl (by decide +kernel) rfl rfl (Nat.le_of_ble_eq_true rfl) dX2_init_27 (fun H locs hP hD hS => ?_)
  have hP : va_P D vwCl [(h0, .inr (2, [.ref q0, .ref q1, .null, .null])), (q0, .inr (5, [.ref u0, .int 0])), (u0, .inl (cI, (16, .inl (fun _ => 0)))), (q1, .inr (5, [.ref u1, .int 0])), (u1, .inl (cI, (16, .inl (fun _ => 0))))] H := hP
  have hD : va_D A [(h0, .inr (2, [.ref q0, .ref q1, .null, .null])), (q0, .inr (5, [.ref u0, .int 0])), (u0, .inl (cI, (16, .inl (fun _ => 0)))), (q1, .inr (5, [.ref u1, .int 0])), (u1, .inl (cI, (16, .inl (fun _ => 0))))] := hD
  refine lv_aload_n hx hb dX2_init_30 rfl (lv_at hl 0 rfl) ?_
  refine va_new (ci := 5) (fs := [.null, .int 0]) (C := RX5) (T := TX5) (N := 2) hx hb hts hin5 tyX5 tyX5_ok hown (hts _ kx_classLink_RX2_9_RX5) (hts _ kx_instantiable_RX5_2) (hts _ kx_initialized_RX5) hK.1 hP hD hS hA rfl (fun j hj => by rcases (show j = 0 ∨ j = 1 by omega) with rfl | rfl <;> rfl) (Nat.le_of_ble_eq_true rfl) (Nat.le_of_ble_eq_true rfl) dX2_init_31 (fun q2 H hP hD hS => ?_)
  have hP : va_P D vwCl [(h0, .inr (2, [.ref q0, .ref q1, .null, .null])), (q0, .inr (5, [.ref u0, .int 0])), (u0, .inl (cI, (16, .inl (fun _ => 0)))), (q1, .inr (5, [.ref u1, .int 0])), (u1, .inl (cI, (16, .inl (fun _ => 0)))), (q2, .inr (5, [.null, .int 0]))] H := hP
  have hD : va_D A [(h0, .inr (2, [.ref q0, .ref q1, .null, .null])), (q0, .inr (5, [.ref u0, .int 0])), (u0, .inl (cI, (16, .inl (fun _ => 0)))), (q1, .inr (5, [.ref u1, .int 0])), (u1, .inl (cI, (16, .inl (fun _ => 0)))), (q2, .inr (5, [.null, .int 0]))] := hD
  refine W.widen (k := 5) (n := 38) (Nat.le_of_ble_eq_true rfl) (Nat.le_of_ble_eq_true rfl) ?_
  refine lv_dup hx hb dX2_init_34 rfl ?_
  refine lv_bipush (v := 16) hx hb dX2_init_35 (by decide) ?_
  have hPc := hP.sub (ws' := [(q2, .inr (5, [.null, .int 0]))]) [5] rfl
  have hDc := hD.sub (ws' := [(q2, .inr (5, [.null, .int 0]))]) [5] (by decide) rfl
  have hFc := va_free (wc := [(q2, .inr (5, [.null, .int 0]))]) hD hS hA [5] rfl
  refine va_callv (va_runI (As := [.int (nI 16)]) (rest := [.ref q2, .ref h0]) ⟨hx, hb, hml, hown, hts⟩ (c_X5_init l D cI cZ q2 H.size 16 (by decide)) (cw_X2_11 hts rfl rfl ⟨Nat.le_of_ble_eq_true rfl, Nat.le_of_ble_eq_true rfl⟩) (cv_pre hK hPc (hDc.weaken (fun _ _ _ _ => trivial))) rfl rfl hl.1 rfl (lv_room (Nat.le_of_ble_eq_true rfl)) dX2_init_37 ⟨Nat.le_of_ble_eq_true rfl, Nat.le_of_ble_eq_true rfl⟩) hS (fun q _ h => hFc q h) hFc (fun u2 t H1 locs ht hvm hw hB hz1 hk1 hS => ?_)
  obtain ⟨hP1, hD1⟩ := hB
  rw [ht] at hP1
  obtain ⟨hP, hD⟩ := va_join (wr := [(h0, .inr (2, [.ref q0, .ref q1, .null, .null])), (q0, .inr (5, [.ref u0, .int 0])), (u0, .inl (cI, (16, .inl (fun _ => 0)))), (q1, .inr (5, [.ref u1, .int 0])), (u1, .inl (cI, (16, .inl (fun _ => 0))))]) (w1 := [(q2, .inr (5, [.ref u2, .int 0])), (u2, .inl (cI, (16, .inl (fun _ => 0))))]) hP hD [5] [0, 1, 2, 3, 4] rfl rfl (by decide) (by decide) hk1 hFc hP1 hD1
  generalize H1 = H at hP hS ⊢
  have hP : va_P D vwCl [(h0, .inr (2, [.ref q0, .ref q1, .null, .null])), (q0, .inr (5, [.ref u0, .int 0])), (u0, .inl (cI, (16, .inl (fun _ => 0)))), (q1, .inr (5, [.ref u1, .int 0])), (u1, .inl (cI, (16, .inl (fun _ => 0)))), (q2, .inr (5, [.ref u2, .int 0])), (u2, .inl (cI, (16, .inl (fun _ => 0))))] H := hP
  have hD : va_D A [(h0, .inr (2, [.ref q0, .ref q1, .null, .null])), (q0, .inr (5, [.ref u0, .int 0])), (u0, .inl (cI, (16, .inl (fun _ => 0)))), (q1, .inr (5, [.ref u1, .int 0])), (u1, .inl (cI, (16, .inl (fun _ => 0)))), (q2, .inr (5, [.ref u2, .int 0])), (u2, .inl (cI, (16, .inl (fun _ => 0))))] := hD
  refine W.widen (k := 6) (n := 54) (Nat.le_of_ble_eq_true rfl) (Nat.le_of_ble_eq_true rfl) ?_
  clear hPc hDc hFc hP1 hD1 hk1 hz1 hw
  refine va_putF (D := D) (ci := 2) (v := .ref q2) (ty := .object "TwigsAndStones$Row") (C := RX2) (T := TX2) (N := 4) hx hb hts hin2 tyX2 tyX2_ok nmX2 hown hK.1 hP hD hS 0 rfl rfl 2 (by decide) (hts _ fl_X2_23) (fun _ h9 => h9) rfl hin rfl (by decide +kernel) rfl rfl (Nat.le_of_ble_eq_true rfl) dX2_init_40 (fun H locs hP hD hS => ?_)
  have hP : va_P D vwCl [(h0, .inr (2, [.ref q0, .ref q1, .ref q2, .null])), (q0, .inr (5, [.ref u0, .int 0])), (u0, .inl (cI, (16, .inl (fun _ => 0)))), (q1, .inr (5, [.ref u1, .int 0])), (u1, .inl (cI, (16, .inl (fun _ => 0)))), (q2, .inr (5, [.ref u2, .int 0])), (u2, .inl (cI, (16, .inl (fun _ => 0))))] H := hP
  have hD : va_D A [(h0, .inr (2, [.ref q0, .ref q1, .ref q2, .null])), (q0, .inr (5, [.ref u0, .int 0])), (u0, .inl (cI, (16, .inl (fun _ => 0)))), (q1, .inr (5, [.ref u1, .int 0])), (u1, .inl (cI, (16, .inl (fun _ => 0)))), (q2, .inr (5, [.ref u2, .int 0])), (u2, .inl (cI, (16, .inl (fun _ => 0))))] := hD
  refine lv_aload_n hx hb dX2_init_43 rfl (lv_at hl 0 rfl) ?_
  refine va_new (ci := 5) (fs := [.null, .int 0]) (C := RX5) (T := TX5) (N := 2) hx hb hts hin5 tyX5 tyX5_ok hown (hts _ kx_classLink_RX2_9_RX5) (hts _ kx_instantiable_RX5_2) (hts _ kx_initialized_RX5) hK.1 hP hD hS hA rfl (fun j hj => by rcases (show j = 0 ∨ j = 1 by omega) with rfl | rfl <;> rfl) (Nat.le_of_ble_eq_true rfl) (Nat.le_of_ble_eq_true rfl) dX2_init_44 (fun q3 H hP hD hS => ?_)
  have hP : va_P D vwCl [(h0, .inr (2, [.ref q0, .ref q1, .ref q2, .null])), (q0, .inr (5, [.ref u0, .int 0])), (u0, .inl (cI, (16, .inl (fun _ => 0)))), (q1, .inr (5, [.ref u1, .int 0])), (u1, .inl (cI, (16, .inl (fun _ => 0)))), (q2, .inr (5, [.ref u2, .int 0])), (u2, .inl (cI, (16, .inl (fun _ => 0)))), (q3, .inr (5, [.null, .int 0]))] H := hP
  have hD : va_D A [(h0, .inr (2, [.ref q0, .ref q1, .ref q2, .null])), (q0, .inr (5, [.ref u0, .int 0])), (u0, .inl (cI, (16, .inl (fun _ => 0)))), (q1, .inr (5, [.ref u1, .int 0])), (u1, .inl (cI, (16, .inl (fun _ => 0)))), (q2, .inr (5, [.ref u2, .int 0])), (u2, .inl (cI, (16, .inl (fun _ => 0)))), (q3, .inr (5, [.null, .int 0]))] := hD
  refine W.widen (k := 7) (n := 56) (Nat.le_of_ble_eq_true rfl) (Nat.le_of_ble_eq_true rfl) ?_
  refine lv_dup hx hb dX2_init_47 rfl ?_
  refine lv_bipush (v := 10) hx hb dX2_init_48 (by decide) ?_
  have hPc := hP.sub (ws' := [(q3, .inr (5, [.null, .int 0]))]) [7] rfl
  have hDc := hD.sub (ws' := [(q3, .inr (5, [.null, .int 0]))]) [7] (by decide) rfl
  have hFc := va_free (wc := [(q3, .inr (5, [.null, .int 0]))]) hD hS hA [7] rfl
  refine va_callv (va_runI (As := [.int (nI 10)]) (rest := [.ref q3, .ref h0]) ⟨hx, hb, hml, hown, hts⟩ (c_X5_init l D cI cZ q3 H.size 10 (by decide)) (cw_X2_11 hts rfl rfl ⟨Nat.le_of_ble_eq_true rfl, Nat.le_of_ble_eq_true rfl⟩) (cv_pre hK hPc (hDc.weaken (fun _ _ _ _ => trivial))) rfl rfl hl.1 rfl (lv_room (Nat.le_of_ble_eq_true rfl)) dX2_init_50 ⟨Nat.le_of_ble_eq_true rfl, Nat.le_of_ble_eq_true rfl⟩) hS (fun q _ h => hFc q h) hFc (fun u3 t H1 locs ht hvm hw hB hz1 hk1 hS => ?_)
  obtain ⟨hP1, hD1⟩ := hB
  rw [ht] at hP1
  obtain ⟨hP, hD⟩ := va_join (wr := [(h0, .inr (2, [.ref q0, .ref q1, .ref q2, .null])), (q0, .inr (5, [.ref u0, .int 0])), (u0, .inl (cI, (16, .inl (fun _ => 0)))), (q1, .inr (5, [.ref u1, .int 0])), (u1, .inl (cI, (16, .inl (fun _ => 0)))), (q2, .inr (5, [.ref u2, .int 0])), (u2, .inl (cI, (16, .inl (fun _ => 0))))]) (w1 := [(q3, .inr (5, [.ref u3, .int 0])), (u3, .inl (cI, (10, .inl (fun _ => 0))))]) hP hD [7] [0, 1, 2, 3, 4, 5, 6] rfl rfl (by decide) (by decide) hk1 hFc hP1 hD1
  generalize H1 = H at hP hS ⊢
  have hP : va_P D vwCl [(h0, .inr (2, [.ref q0, .ref q1, .ref q2, .null])), (q0, .inr (5, [.ref u0, .int 0])), (u0, .inl (cI, (16, .inl (fun _ => 0)))), (q1, .inr (5, [.ref u1, .int 0])), (u1, .inl (cI, (16, .inl (fun _ => 0)))), (q2, .inr (5, [.ref u2, .int 0])), (u2, .inl (cI, (16, .inl (fun _ => 0)))), (q3, .inr (5, [.ref u3, .int 0])), (u3, .inl (cI, (10, .inl (fun _ => 0))))] H := hP
  have hD : va_D A [(h0, .inr (2, [.ref q0, .ref q1, .ref q2, .null])), (q0, .inr (5, [.ref u0, .int 0])), (u0, .inl (cI, (16, .inl (fun _ => 0)))), (q1, .inr (5, [.ref u1, .int 0])), (u1, .inl (cI, (16, .inl (fun _ => 0)))), (q2, .inr (5, [.ref u2, .int 0])), (u2, .inl (cI, (16, .inl (fun _ => 0)))), (q3, .inr (5, [.ref u3, .int 0])), (u3, .inl (cI, (10, .inl (fun _ => 0))))] := hD
  refine W.widen (k := 8) (n := 66) (Nat.le_of_ble_eq_true rfl) (Nat.le_of_ble_eq_true rfl) ?_
  clear hPc hDc hFc hP1 hD1 hk1 hz1 hw
  have hPc := hP.sub (ws' := [(q3, .inr (5, [.ref u3, .int 0])), (u3, .inl (cI, (10, .inl (fun _ => 0))))]) [7, 8] rfl
  have hDc := hD.sub (ws' := [(q3, .inr (5, [.ref u3, .int 0])), (u3, .inl (cI, (10, .inl (fun _ => 0))))]) [7, 8] (by decide) rfl
  have hFc := va_free (wc := [(q3, .inr (5, [.ref u3, .int 0])), (u3, .inl (cI, (10, .inl (fun _ => 0))))]) hD hS hA [7, 8] rfl
  have hpre := cv_pre hK hPc (av := [.ref q3]) (hDc.weaken (fun _ _ _ _ => trivial))
  refine va_callr (va_runV (As := []) (rest := [.ref h0]) ⟨hx, hb, hml, hown, hts⟩ (c_X5_filled l D cI cZ q3 u3 H.size 10 (fun _ => 0)) (cw_X2_26 hts rfl rfl ⟨Nat.le_of_ble_eq_true rfl, Nat.le_of_ble_eq_true rfl⟩) ⟨hpre.1, va_recv hK.1 hPc (show vwCl[5]? = some (RX5, TX5, 2) from rfl) (show ([(q3, .inr (5, [.ref u3, .int 0])), (u3, .inl (cI, (10, .inl (fun _ => 0))))] : va_W)[0]? = some (q3, .inr (5, [.ref u3, .int 0])) from rfl), hpre.2⟩ rfl rfl hl.1 rfl (lv_room (Nat.le_of_ble_eq_true rfl)) dX2_init_53 ⟨Nat.le_of_ble_eq_true rfl, Nat.le_of_ble_eq_true rfl⟩) hS (fun q _ h => hFc q h) hFc (fun _ ra t H1 locs ht hvm hw hB hz1 hk1 hS => ?_)
  obtain ⟨e9, hP1, hD1⟩ := hB
  rw [ht] at hP1
  rw [e9]
  obtain ⟨hP, hD⟩ := va_join (wr := [(h0, .inr (2, [.ref q0, .ref q1, .ref q2, .null])), (q0, .inr (5, [.ref u0, .int 0])), (u0, .inl (cI, (16, .inl (fun _ => 0)))), (q1, .inr (5, [.ref u1, .int 0])), (u1, .inl (cI, (16, .inl (fun _ => 0)))), (q2, .inr (5, [.ref u2, .int 0])), (u2, .inl (cI, (16, .inl (fun _ => 0))))]) (w1 := [(q3, .inr (5, [.ref u3, .int (nI 10)])), (u3, .inl (cI, (10, .inl (fun _ => 0))))]) hP hD [7, 8] [0, 1, 2, 3, 4, 5, 6] rfl rfl (by decide) (by decide) hk1 hFc hP1 hD1
  generalize H1 = H at hP hS ⊢
  have hP : va_P D vwCl [(h0, .inr (2, [.ref q0, .ref q1, .ref q2, .null])), (q0, .inr (5, [.ref u0, .int 0])), (u0, .inl (cI, (16, .inl (fun _ => 0)))), (q1, .inr (5, [.ref u1, .int 0])), (u1, .inl (cI, (16, .inl (fun _ => 0)))), (q2, .inr (5, [.ref u2, .int 0])), (u2, .inl (cI, (16, .inl (fun _ => 0)))), (q3, .inr (5, [.ref u3, .int (nI 10)])), (u3, .inl (cI, (10, .inl (fun _ => 0))))] H := hP
  have hD : va_D A [(h0, .inr (2, [.ref q0, .ref q1, .ref q2, .null])), (q0, .inr (5, [.ref u0, .int 0])), (u0, .inl (cI, (16, .inl (fun _ => 0)))), (q1, .inr (5, [.ref u1, .int 0])), (u1, .inl (cI, (16, .inl (fun _ => 0)))), (q2, .inr (5, [.ref u2, .int 0])), (u2, .inl (cI, (16, .inl (fun _ => 0)))), (q3, .inr (5, [.ref u3, .int (nI 10)])), (u3, .inl (cI, (10, .inl (fun _ => 0))))] := hD
  refine W.widen (k := 8) (n := 66) (Nat.le_of_ble_eq_true rfl) (Nat.le_of_ble_eq_true rfl) ?_
  clear hPc hDc hFc hP1 hD1 hk1 hz1 hw e9 hpre
  refine va_putF (D := D) (ci := 2) (v := .ref q3) (ty := .object "TwigsAndStones$Row") (C := RX2) (T := TX2) (N := 4) hx hb hts hin2 tyX2 tyX2_ok nmX2 hown hK.1 hP hD hS 0 rfl rfl 3 (by decide) (hts _ fl_X2_30) (fun _ h9 => h9) rfl hin rfl (by decide +kernel) rfl rfl (Nat.le_of_ble_eq_true rfl) dX2_init_56 (fun H locs hP hD hS => ?_)
  have hP : va_P D vwCl [(h0, .inr (2, [.ref q0, .ref q1, .ref q2, .ref q3])), (q0, .inr (5, [.ref u0, .int 0])), (u0, .inl (cI, (16, .inl (fun _ => 0)))), (q1, .inr (5, [.ref u1, .int 0])), (u1, .inl (cI, (16, .inl (fun _ => 0)))), (q2, .inr (5, [.ref u2, .int 0])), (u2, .inl (cI, (16, .inl (fun _ => 0)))), (q3, .inr (5, [.ref u3, .int (nI 10)])), (u3, .inl (cI, (10, .inl (fun _ => 0))))] H := hP
  have hD : va_D A [(h0, .inr (2, [.ref q0, .ref q1, .ref q2, .ref q3])), (q0, .inr (5, [.ref u0, .int 0])), (u0, .inl (cI, (16, .inl (fun _ => 0)))), (q1, .inr (5, [.ref u1, .int 0])), (u1, .inl (cI, (16, .inl (fun _ => 0)))), (q2, .inr (5, [.ref u2, .int 0])), (u2, .inl (cI, (16, .inl (fun _ => 0)))), (q3, .inr (5, [.ref u3, .int (nI 10)])), (u3, .inl (cI, (10, .inl (fun _ => 0))))] := hD
  refine W.widen (k := 8) (n := 66) (Nat.le_of_ble_eq_true rfl) (Nat.le_of_ble_eq_true rfl) ?_
  exact W.vret hx hb hr (fun t ht hW => ⟨⟨adr [q0, u0, q1, u1, q2, u2, q3, u3], rfl, trivial, by rw [ht]; exact hP, hD⟩, hS.F ht⟩) hS.2.2 dX2_init_59

set_option maxHeartbeats 4000000 in
set_option maxRecDepth 100000 in
theorem c_X1_init (l : Launch) (D : va_G) (cI cZ : ClassId) (h0 sz : Nat) : CV l D cI cZ yX1_init wyX1_init ({ frames := 2, cells := 6, slots := 21, locals := 43 } : Room) [.ref h0] [(h0, .inr (1, [.null, .null, .null]))] sz (fun u : Nat → Nat => [(h0, .inr (1, [.ref (u 0), .ref (u 2), .ref (u 4)])), ((u 0), .inr (5, [.ref (u 1), .int 0])), ((u 1), .inl (cI, (5, .inl (fun _ => 0)))), ((u 2), .inr (5, [.ref (u 3), .int (nI 5)])), ((u 3), .inl (cI, (5, .inl (fun _ => 0)))), ((u 4), .inr (5, [.ref (u 5), .int (nI 5)])), ((u 5), .inl (cI, (5, .inl (fun _ => 0))))]) 6 21 := by
  refine Met.ofW (cc := cX1_init) (maxL := 1) (ret := none) (by decide) rfl ?_
  intro p e s m args below meth c s₁ B hml hv
  obtain ⟨rfl, hsz, hK, hP, hD0⟩ := hv
  have hx := B.exec
  have hb := B.bytes
  have hr := B.returns
  have hts0 := atoms_spec (ws := wyX1_init) B.pre
  have hts : ∀ w ∈ big, w.before _ s = true := fun w h => hts0 w (List.mem_cons_of_mem _ h)
  have hown : s.vm.findClass RX1 = some m.cls := findClass_of_methodNamed B.named
  have hlocks := B.notSynchronized
  have hin : meth.name = "<init>" := (name_of_methodNamed B.named B.method).1
  subst hsz
  have hD := hD0.self (sz := s.heap.size)
  generalize hAe : va_A [(h0, .inr (1, [.null, .null, .null]))] s.heap.size = A at hD ⊢
  have hA : ∀ q : Nat, s.heap.size ≤ q → A q := fun q h => by rw [← hAe]; exact Or.inr h
  have hS : va_S A s.heap s.heap [] := va_S.rf
  have hl := lv_entry ([.ref h0]) (n := 1) (Nat.le_of_ble_eq_true rfl)
  rw [lg_entry_eq]
  generalize (lg_sl ([.ref h0]) ++ List.replicate (1 - (lg_sl ([.ref h0])).length) Slot.unset).toArray = ls at hl ⊢
  have hl : lv_has ls 1 [(0, .ref h0)] := hl
  refine lv_aload_n hx hb dX1_init_0 rfl (lv_at hl 0 rfl) ?_
  refine W.objInit hx hb hown (hts _ ml_X1_1) (hts _ kx_oi) (hts _ kx_oc) rfl (by rw [hml]; exact hl.1) rfl dX1_init_1 (Nat.le_of_ble_eq_true rfl) (Nat.le_of_ble_eq_true rfl) ?_
  refine W.eq (g2 := F0 m 4 ls []) rfl ?_
  refine lv_aload_n hx hb dX1_init_4 rfl (lv_at hl 0 rfl) ?_
  refine va_new (ci := 5) (fs := [.null, .int 0]) (C := RX5) (T := TX5) (N := 2) hx hb hts hin5 tyX5 tyX5_ok hown (hts _ kx_classLink_RX1_7_RX5) (hts _ kx_instantiable_RX5_2) (hts _ kx_initialized_RX5) hK.1 hP hD hS hA rfl (fun j hj => by rcases (show j = 0 ∨ j = 1 by omega) with rfl | rfl <;> rfl) (Nat.le_of_ble_eq_true rfl) (Nat.le_of_ble_eq_true rfl) dX1_init_5 (fun q0 H hP hD hS => ?_)
  have hP : va_P D vwCl [(h0, .inr (1, [.null, .null, .null])), (q0, .inr (5, [.null, .int 0]))] H := hP
  have hD : va_D A [(h0, .inr (1, [.null, .null, .null])), (q0, .inr (5, [.null, .int 0]))] := hD
  refine W.widen (k := 1) (n := 2) (Nat.le_of_ble_eq_true rfl) (Nat.le_of_ble_eq_true rfl) ?_
  refine lv_dup hx hb dX1_init_8 rfl ?_
  refine lv_iconst (v := 5) hx hb dX1_init_9 (by decide) ?_
  have hPc := hP.sub (ws' := [(q0, .inr (5, [.null, .int 0]))]) [1] rfl
  have hDc := hD.sub (ws' := [(q0, .inr (5, [.null, .int 0]))]) [1] (by decide) rfl
  have hFc := va_free (wc := [(q0, .inr (5, [.null, .int 0]))]) hD hS hA [1] rfl
  refine va_callv (va_runI (As := [.int (nI 5)]) (rest := [.ref q0, .ref h0]) ⟨hx, hb, hml, hown, hts⟩ (c_X5_init l D cI cZ q0 H.size 5 (by decide)) (cw_X1_11 hts rfl rfl ⟨Nat.le_of_ble_eq_true rfl, Nat.le_of_ble_eq_true rfl⟩) (cv_pre hK hPc (hDc.weaken (fun _ _ _ _ => trivial))) rfl rfl hl.1 rfl (lv_room (Nat.le_of_ble_eq_true rfl)) dX1_init_10 ⟨Nat.le_of_ble_eq_true rfl, Nat.le_of_ble_eq_true rfl⟩) hS (fun q _ h => hFc q h) hFc (fun u0 t H1 locs ht hvm hw hB hz1 hk1 hS => ?_)
  obtain ⟨hP1, hD1⟩ := hB
  rw [ht] at hP1
  obtain ⟨hP, hD⟩ := va_join (wr := [(h0, .inr (1, [.null, .null, .null]))]) (w1 := [(q0, .inr (5, [.ref u0, .int 0])), (u0, .inl (cI, (5, .inl (fun _ => 0))))]) hP hD [1] [0] rfl rfl (by decide) (by decide) hk1 hFc hP1 hD1
  generalize H1 = H at hP hS ⊢
  have hP : va_P D vwCl [(h0, .inr (1, [.null, .null, .null])), (q0, .inr (5, [.ref u0, .int 0])), (u0, .inl (cI, (5, .inl (fun _ => 0))))] H := hP
  have hD : va_D A [(h0, .inr (1, [.null, .null, .null])), (q0, .inr (5, [.ref u0, .int 0])), (u0, .inl (cI, (5, .inl (fun _ => 0))))] := hD
  refine W.widen (k := 2) (n := 7) (Nat.le_of_ble_eq_true rfl) (Nat.le_of_ble_eq_true rfl) ?_
  clear hPc hDc hFc hP1 hD1 hk1 hz1 hw
  refine va_putF (D := D) (ci := 1) (v := .ref q0) (ty := .object "TwigsAndStones$Row") (C := RX1) (T := TX1) (N := 3) hx hb hts hin1 tyX1 tyX1_ok nmX1 hown hK.1 hP hD hS 0 rfl rfl 0 (by decide) (hts _ fl_X1_14) (fun _ h9 => h9) rfl hin rfl (by decide +kernel) rfl rfl (Nat.le_of_ble_eq_true rfl) dX1_init_13 (fun H locs hP hD hS => ?_)
  have hP : va_P D vwCl [(h0, .inr (1, [.ref q0, .null, .null])), (q0, .inr (5, [.ref u0, .int 0])), (u0, .inl (cI, (5, .inl (fun _ => 0))))] H := hP
  have hD : va_D A [(h0, .inr (1, [.ref q0, .null, .null])), (q0, .inr (5, [.ref u0, .int 0])), (u0, .inl (cI, (5, .inl (fun _ => 0))))] := hD
  refine lv_aload_n hx hb dX1_init_16 rfl (lv_at hl 0 rfl) ?_
  refine va_new (ci := 5) (fs := [.null, .int 0]) (C := RX5) (T := TX5) (N := 2) hx hb hts hin5 tyX5 tyX5_ok hown (hts _ kx_classLink_RX1_7_RX5) (hts _ kx_instantiable_RX5_2) (hts _ kx_initialized_RX5) hK.1 hP hD hS hA rfl (fun j hj => by rcases (show j = 0 ∨ j = 1 by omega) with rfl | rfl <;> rfl) (Nat.le_of_ble_eq_true rfl) (Nat.le_of_ble_eq_true rfl) dX1_init_17 (fun q1 H hP hD hS => ?_)
  have hP : va_P D vwCl [(h0, .inr (1, [.ref q0, .null, .null])), (q0, .inr (5, [.ref u0, .int 0])), (u0, .inl (cI, (5, .inl (fun _ => 0)))), (q1, .inr (5, [.null, .int 0]))] H := hP
  have hD : va_D A [(h0, .inr (1, [.ref q0, .null, .null])), (q0, .inr (5, [.ref u0, .int 0])), (u0, .inl (cI, (5, .inl (fun _ => 0)))), (q1, .inr (5, [.null, .int 0]))] := hD
  refine W.widen (k := 3) (n := 9) (Nat.le_of_ble_eq_true rfl) (Nat.le_of_ble_eq_true rfl) ?_
  refine lv_dup hx hb dX1_init_20 rfl ?_
  refine lv_iconst (v := 5) hx hb dX1_init_21 (by decide) ?_
  have hPc := hP.sub (ws' := [(q1, .inr (5, [.null, .int 0]))]) [3] rfl
  have hDc := hD.sub (ws' := [(q1, .inr (5, [.null, .int 0]))]) [3] (by decide) rfl
  have hFc := va_free (wc := [(q1, .inr (5, [.null, .int 0]))]) hD hS hA [3] rfl
  refine va_callv (va_runI (As := [.int (nI 5)]) (rest := [.ref q1, .ref h0]) ⟨hx, hb, hml, hown, hts⟩ (c_X5_init l D cI cZ q1 H.size 5 (by decide)) (cw_X1_11 hts rfl rfl ⟨Nat.le_of_ble_eq_true rfl, Nat.le_of_ble_eq_true rfl⟩) (cv_pre hK hPc (hDc.weaken (fun _ _ _ _ => trivial))) rfl rfl hl.1 rfl (lv_room (Nat.le_of_ble_eq_true rfl)) dX1_init_22 ⟨Nat.le_of_ble_eq_true rfl, Nat.le_of_ble_eq_true rfl⟩) hS (fun q _ h => hFc q h) hFc (fun u1 t H1 locs ht hvm hw hB hz1 hk1 hS => ?_)
  obtain ⟨hP1, hD1⟩ := hB
  rw [ht] at hP1
  obtain ⟨hP, hD⟩ := va_join (wr := [(h0, .inr (1, [.ref q0, .null, .null])), (q0, .inr (5, [.ref u0, .int 0])), (u0, .inl (cI, (5, .inl (fun _ => 0))))]) (w1 := [(q1, .inr (5, [.ref u1, .int 0])), (u1, .inl (cI, (5, .inl (fun _ => 0))))]) hP hD [3] [0, 1, 2] rfl rfl (by decide) (by decide) hk1 hFc hP1 hD1
  generalize H1 = H at hP hS ⊢
  have hP : va_P D vwCl [(h0, .inr (1, [.ref q0, .null, .null])), (q0, .inr (5, [.ref u0, .int 0])), (u0, .inl (cI, (5, .inl (fun _ => 0)))), (q1, .inr (5, [.ref u1, .int 0])), (u1, .inl (cI, (5, .inl (fun _ => 0))))] H := hP
  have hD : va_D A [(h0, .inr (1, [.ref q0, .null, .null])), (q0, .inr (5, [.ref u0, .int 0])), (u0, .inl (cI, (5, .inl (fun _ => 0)))), (q1, .inr (5, [.ref u1, .int 0])), (u1, .inl (cI, (5, .inl (fun _ => 0))))] := hD
  refine W.widen (k := 4) (n := 14) (Nat.le_of_ble_eq_true rfl) (Nat.le_of_ble_eq_true rfl) ?_
  clear hPc hDc hFc hP1 hD1 hk1 hz1 hw
  have hPc := hP.sub (ws' := [(q1, .inr (5, [.ref u1, .int 0])), (u1, .inl (cI, (5, .inl (fun _ => 0))))]) [3, 4] rfl
  have hDc := hD.sub (ws' := [(q1, .inr (5, [.ref u1, .int 0])), (u1, .inl (cI, (5, .inl (fun _ => 0))))]) [3, 4] (by decide) rfl
  have hFc := va_free (wc := [(q1, .inr (5, [.ref u1, .int 0])), (u1, .inl (cI, (5, .inl (fun _ => 0))))]) hD hS hA [3, 4] rfl
  have hpre := cv_pre hK hPc (av := [.ref q1]) (hDc.weaken (fun _ _ _ _ => trivial))
  refine va_callr (va_runV (As := []) (rest := [.ref h0]) ⟨hx, hb, hml, hown, hts⟩ (c_X5_filled l D cI cZ q1 u1 H.size 5 (fun _ => 0)) (cw_X1_18 hts rfl rfl ⟨Nat.le_of_ble_eq_true rfl, Nat.le_of_ble_eq_true rfl⟩) ⟨hpre.1, va_recv hK.1 hPc (show vwCl[5]? = some (RX5, TX5, 2) from rfl) (show ([(q1, .inr (5, [.ref u1, .int 0])), (u1, .inl (cI, (5, .inl (fun _ => 0))))] : va_W)[0]? = some (q1, .inr (5, [.ref u1, .int 0])) from rfl), hpre.2⟩ rfl rfl hl.1 rfl (lv_room (Nat.le_of_ble_eq_true rfl)) dX1_init_25 ⟨Nat.le_of_ble_eq_true rfl, Nat.le_of_ble_eq_true rfl⟩) hS (fun q _ h => hFc q h) hFc (fun _ ra t H1 locs ht hvm hw hB hz1 hk1 hS => ?_)
  obtain ⟨e9, hP1, hD1⟩ := hB
  rw [ht] at hP1
  rw [e9]
  obtain ⟨hP, hD⟩ := va_join (wr := [(h0, .inr (1, [.ref q0, .null, .null])), (q0, .inr (5, [.ref u0, .int 0])), (u0, .inl (cI, (5, .inl (fun _ => 0))))]) (w1 := [(q1, .inr (5, [.ref u1, .int (nI 5)])), (u1, .inl (cI, (5, .inl (fun _ => 0))))]) hP hD [3, 4] [0, 1, 2] rfl rfl (by decide) (by decide) hk1 hFc hP1 hD1
  generalize H1 = H at hP hS ⊢
  have hP : va_P D vwCl [(h0, .inr (1, [.ref q0, .null, .null])), (q0, .inr (5, [.ref u0, .int 0])), (u0, .inl (cI, (5, .inl (fun _ => 0)))), (q1, .inr (5, [.ref u1, .int (nI 5)])), (u1, .inl (cI, (5, .inl (fun _ => 0))))] H := hP
  have hD : va_D A [(h0, .inr (1, [.ref q0, .null, .null])), (q0, .inr (5, [.ref u0, .int 0])), (u0, .inl (cI, (5, .inl (fun _ => 0)))), (q1, .inr (5, [.ref u1, .int (nI 5)])), (u1, .inl (cI, (5, .inl (fun _ => 0))))] := hD
  refine W.widen (k := 4) (n := 14) (Nat.le_of_ble_eq_true rfl) (Nat.le_of_ble_eq_true rfl) ?_
  clear hPc hDc hFc hP1 hD1 hk1 hz1 hw e9 hpre
  refine va_putF (D := D) (ci := 1) (v := .ref q1) (ty := .object "TwigsAndStones$Row") (C := RX1) (T := TX1) (N := 3) hx hb hts hin1 tyX1 tyX1_ok nmX1 hown hK.1 hP hD hS 0 rfl rfl 1 (by decide) (hts _ fl_X1_22) (fun _ h9 => h9) rfl hin rfl (by decide +kernel) rfl rfl (Nat.le_of_ble_eq_true rfl) dX1_init_28 (fun H locs hP hD hS => ?_)
  have hP : va_P D vwCl [(h0, .inr (1, [.ref q0, .ref q1, .null])), (q0, .inr (5, [.ref u0, .int 0])), (u0, .inl (cI, (5, .inl (fun _ => 0)))), (q1, .inr (5, [.ref u1, .int (nI 5)])), (u1, .inl (cI, (5, .inl (fun _ => 0))))] H := hP
  have hD : va_D A [(h0, .inr (1, [.ref q0, .ref q1, .null])), (q0, .inr (5, [.ref u0, .int 0])), (u0, .inl (cI, (5, .inl (fun _ => 0)))), (q1, .inr (5, [.ref u1, .int (nI 5)])), (u1, .inl (cI, (5, .inl (fun _ => 0))))] := hD
  refine lv_aload_n hx hb dX1_init_31 rfl (lv_at hl 0 rfl) ?_
  refine va_new (ci := 5) (fs := [.null, .int 0]) (C := RX5) (T := TX5) (N := 2) hx hb hts hin5 tyX5 tyX5_ok hown (hts _ kx_classLink_RX1_7_RX5) (hts _ kx_instantiable_RX5_2) (hts _ kx_initialized_RX5) hK.1 hP hD hS hA rfl (fun j hj => by rcases (show j = 0 ∨ j = 1 by omega) with rfl | rfl <;> rfl) (Nat.le_of_ble_eq_true rfl) (Nat.le_of_ble_eq_true rfl) dX1_init_32 (fun q2 H hP hD hS => ?_)
  have hP : va_P D vwCl [(h0, .inr (1, [.ref q0, .ref q1, .null])), (q0, .inr (5, [.ref u0, .int 0])), (u0, .inl (cI, (5, .inl (fun _ => 0)))), (q1, .inr (5, [.ref u1, .int (nI 5)])), (u1, .inl (cI, (5, .inl (fun _ => 0)))), (q2, .inr (5, [.null, .int 0]))] H := hP
  have hD : va_D A [(h0, .inr (1, [.ref q0, .ref q1, .null])), (q0, .inr (5, [.ref u0, .int 0])), (u0, .inl (cI, (5, .inl (fun _ => 0)))), (q1, .inr (5, [.ref u1, .int (nI 5)])), (u1, .inl (cI, (5, .inl (fun _ => 0)))), (q2, .inr (5, [.null, .int 0]))] := hD
  refine W.widen (k := 5) (n := 16) (Nat.le_of_ble_eq_true rfl) (Nat.le_of_ble_eq_true rfl) ?_
  refine lv_dup hx hb dX1_init_35 rfl ?_
  refine lv_iconst (v := 5) hx hb dX1_init_36 (by decide) ?_
  have hPc := hP.sub (ws' := [(q2, .inr (5, [.null, .int 0]))]) [5] rfl
  have hDc := hD.sub (ws' := [(q2, .inr (5, [.null, .int 0]))]) [5] (by decide) rfl
  have hFc := va_free (wc := [(q2, .inr (5, [.null, .int 0]))]) hD hS hA [5] rfl
  refine va_callv (va_runI (As := [.int (nI 5)]) (rest := [.ref q2, .ref h0]) ⟨hx, hb, hml, hown, hts⟩ (c_X5_init l D cI cZ q2 H.size 5 (by decide)) (cw_X1_11 hts rfl rfl ⟨Nat.le_of_ble_eq_true rfl, Nat.le_of_ble_eq_true rfl⟩) (cv_pre hK hPc (hDc.weaken (fun _ _ _ _ => trivial))) rfl rfl hl.1 rfl (lv_room (Nat.le_of_ble_eq_true rfl)) dX1_init_37 ⟨Nat.le_of_ble_eq_true rfl, Nat.le_of_ble_eq_true rfl⟩) hS (fun q _ h => hFc q h) hFc (fun u2 t H1 locs ht hvm hw hB hz1 hk1 hS => ?_)
  obtain ⟨hP1, hD1⟩ := hB
  rw [ht] at hP1
  obtain ⟨hP, hD⟩ := va_join (wr := [(h0, .inr (1, [.ref q0, .ref q1, .null])), (q0, .inr (5, [.ref u0, .int 0])), (u0, .inl (cI, (5, .inl (fun _ => 0)))), (q1, .inr (5, [.ref u1, .int (nI 5)])), (u1, .inl (cI, (5, .inl (fun _ => 0))))]) (w1 := [(q2, .inr (5, [.ref u2, .int 0])), (u2, .inl (cI, (5, .inl (fun _ => 0))))]) hP hD [5] [0, 1, 2, 3, 4] rfl rfl (by decide) (by decide) hk1 hFc hP1 hD1
  generalize H1 = H at hP hS ⊢
  have hP : va_P D vwCl [(h0, .inr (1, [.ref q0, .ref q1, .null])), (q0, .inr (5, [.ref u0, .int 0])), (u0, .inl (cI, (5, .inl (fun _ => 0)))), (q1, .inr (5, [.ref u1, .int (nI 5)])), (u1, .inl (cI, (5, .inl (fun _ => 0)))), (q2, .inr (5, [.ref u2, .int 0])), (u2, .inl (cI, (5, .inl (fun _ => 0))))] H := hP
  have hD : va_D A [(h0, .inr (1, [.ref q0, .ref q1, .null])), (q0, .inr (5, [.ref u0, .int 0])), (u0, .inl (cI, (5, .inl (fun _ => 0)))), (q1, .inr (5, [.ref u1, .int (nI 5)])), (u1, .inl (cI, (5, .inl (fun _ => 0)))), (q2, .inr (5, [.ref u2, .int 0])), (u2, .inl (cI, (5, .inl (fun _ => 0))))] := hD
  refine W.widen (k := 6) (n := 21) (Nat.le_of_ble_eq_true rfl) (Nat.le_of_ble_eq_true rfl) ?_
  clear hPc hDc hFc hP1 hD1 hk1 hz1 hw
  have hPc := hP.sub (ws' := [(q2, .inr (5, [.ref u2, .int 0])), (u2, .inl (cI, (5, .inl (fun _ => 0))))]) [5, 6] rfl
  have hDc := hD.sub (ws' := [(q2, .inr (5, [.ref u2, .int 0])), (u2, .inl (cI, (5, .inl (fun _ => 0))))]) [5, 6] (by decide) rfl
  have hFc := va_free (wc := [(q2, .inr (5, [.ref u2, .int 0])), (u2, .inl (cI, (5, .inl (fun _ => 0))))]) hD hS hA [5, 6] rfl
  have hpre := cv_pre hK hPc (av := [.ref q2]) (hDc.weaken (fun _ _ _ _ => trivial))
  refine va_callr (va_runV (As := []) (rest := [.ref h0]) ⟨hx, hb, hml, hown, hts⟩ (c_X5_filled l D cI cZ q2 u2 H.size 5 (fun _ => 0)) (cw_X1_18 hts rfl rfl ⟨Nat.le_of_ble_eq_true rfl, Nat.le_of_ble_eq_true rfl⟩) ⟨hpre.1, va_recv hK.1 hPc (show vwCl[5]? = some (RX5, TX5, 2) from rfl) (show ([(q2, .inr (5, [.ref u2, .int 0])), (u2, .inl (cI, (5, .inl (fun _ => 0))))] : va_W)[0]? = some (q2, .inr (5, [.ref u2, .int 0])) from rfl), hpre.2⟩ rfl rfl hl.1 rfl (lv_room (Nat.le_of_ble_eq_true rfl)) dX1_init_40 ⟨Nat.le_of_ble_eq_true rfl, Nat.le_of_ble_eq_true rfl⟩) hS (fun q _ h => hFc q h) hFc (fun _ ra t H1 locs ht hvm hw hB hz1 hk1 hS => ?_)
  obtain ⟨e9, hP1, hD1⟩ := hB
  rw [ht] at hP1
  rw [e9]
  obtain ⟨hP, hD⟩ := va_join (wr := [(h0, .inr (1, [.ref q0, .ref q1, .null])), (q0, .inr (5, [.ref u0, .int 0])), (u0, .inl (cI, (5, .inl (fun _ => 0)))), (q1, .inr (5, [.ref u1, .int (nI 5)])), (u1, .inl (cI, (5, .inl (fun _ => 0))))]) (w1 := [(q2, .inr (5, [.ref u2, .int (nI 5)])), (u2, .inl (cI, (5, .inl (fun _ => 0))))]) hP hD [5, 6] [0, 1, 2, 3, 4] rfl rfl (by decide) (by decide) hk1 hFc hP1 hD1
  generalize H1 = H at hP hS ⊢
  have hP : va_P D vwCl [(h0, .inr (1, [.ref q0, .ref q1, .null])), (q0, .inr (5, [.ref u0, .int 0])), (u0, .inl (cI, (5, .inl (fun _ => 0)))), (q1, .inr (5, [.ref u1, .int (nI 5)])), (u1, .inl (cI, (5, .inl (fun _ => 0)))), (q2, .inr (5, [.ref u2, .int (nI 5)])), (u2, .inl (cI, (5, .inl (fun _ => 0))))] H := hP
  have hD : va_D A [(h0, .inr (1, [.ref q0, .ref q1, .null])), (q0, .inr (5, [.ref u0, .int 0])), (u0, .inl (cI, (5, .inl (fun _ => 0)))), (q1, .inr (5, [.ref u1, .int (nI 5)])), (u1, .inl (cI, (5, .inl (fun _ => 0)))), (q2, .inr (5, [.ref u2, .int (nI 5)])), (u2, .inl (cI, (5, .inl (fun _ => 0))))] := hD
  refine W.widen (k := 6) (n := 21) (Nat.le_of_ble_eq_true rfl) (Nat.le_of_ble_eq_true rfl) ?_
  clear hPc hDc hFc hP1 hD1 hk1 hz1 hw e9 hpre
  refine va_putF (D := D) (ci := 1) (v := .ref q2) (ty := .object "TwigsAndStones$Row") (C := RX1) (T := TX1) (N := 3) hx hb hts hin1 tyX1 tyX1_ok nmX1 hown hK.1 hP hD hS 0 rfl rfl 2 (by decide) (hts _ fl_X1_25) (fun _ h9 => h9) rfl hin rfl (by decide +kernel) rfl rfl (Nat.le_of_ble_eq_true rfl) dX1_init_43 (fun H locs hP hD hS => ?_)
  have hP : va_P D vwCl [(h0, .inr (1, [.ref q0, .ref q1, .ref q2])), (q0, .inr (5, [.ref u0, .int 0])), (u0, .inl (cI, (5, .inl (fun _ => 0)))), (q1, .inr (5, [.ref u1, .int (nI 5)])), (u1, .inl (cI, (5, .inl (fun _ => 0)))), (q2, .inr (5, [.ref u2, .int (nI 5)])), (u2, .inl (cI, (5, .inl (fun _ => 0))))] H := hP
  have hD : va_D A [(h0, .inr (1, [.ref q0, .ref q1, .ref q2])), (q0, .inr (5, [.ref u0, .int 0])), (u0, .inl (cI, (5, .inl (fun _ => 0)))), (q1, .inr (5, [.ref u1, .int (nI 5)])), (u1, .inl (cI, (5, .inl (fun _ => 0)))), (q2, .inr (5, [.ref u2, .int (nI 5)])), (u2, .inl (cI, (5, .inl (fun _ => 0))))] := hD
  refine W.widen (k := 6) (n := 21) (Nat.le_of_ble_eq_true rfl) (Nat.le_of_ble_eq_true rfl) ?_
  exact W.vret hx hb hr (fun t ht hW => ⟨⟨adr [q0, u0, q1, u1, q2, u2], rfl, trivial, by rw [ht]; exact hP, hD⟩, hS.F ht⟩) hS.2.2 dX1_init_46

set_option maxHeartbeats 4000000 in
set_option maxRecDepth 100000 in
theorem c_X0_init (l : Launch) (D : va_G) (cI cZ : ClassId) (h0 sz : Nat) : CV l D cI cZ yX0_init wyX0_init ({ frames := 2, cells := 8, slots := 36, locals := 43 } : Room) [.ref h0] [(h0, .inr (0, [.null, .null, .null, .null]))] sz (fun u : Nat → Nat => [(h0, .inr (0, [.ref (u 0), .ref (u 2), .ref (u 4), .ref (u 6)])), ((u 0), .inr (5, [.ref (u 1), .int (nI 4)])), ((u 1), .inl (cI, (4, .inl (fun _ => 0)))), ((u 2), .inr (5, [.ref (u 3), .int 0])), ((u 3), .inl (cI, (8, .inl (fun _ => 0)))), ((u 4), .inr (5, [.ref (u 5), .int 0])), ((u 5), .inl (cI, (8, .inl (fun _ => 0)))), ((u 6), .inr (5, [.ref (u 7), .int 0])), ((u 7), .inl (cI, (8, .inl (fun _ => 0))))]) 8 36 := by
  refine Met.ofW (cc := cX0_init) (maxL := 1) (ret := none) (by decide) rfl ?_
  intro p e s m args below meth c s₁ B hml hv
  obtain ⟨rfl, hsz, hK, hP, hD0⟩ := hv
  have hx := B.exec
  have hb := B.bytes
  have hr := B.returns
  have hts0 := atoms_spec (ws := wyX0_init) B.pre
  have hts : ∀ w ∈ big, w.before _ s = true := fun w h => hts0 w (List.mem_cons_of_mem _ h)
  have hown : s.vm.findClass RX0 = some m.cls := findClass_of_methodNamed B.named
  have hlocks := B.notSynchronized
  have hin : meth.name = "<init>" := (name_of_methodNamed B.named B.method).1
  subst hsz
  have hD := hD0.self (sz := s.heap.size)
  generalize hAe : va_A [(h0, .inr (0, [.null, .null, .null, .null]))] s.heap.size = A at hD ⊢
  have hA : ∀ q : Nat, s.heap.size ≤ q → A q := fun q h => by rw [← hAe]; exact Or.inr h
  have hS : va_S A s.heap s.heap [] := va_S.rf
  have hl := lv_entry ([.ref h0]) (n := 1) (Nat.le_of_ble_eq_true rfl)
  rw [lg_entry_eq]
  generalize (lg_sl ([.ref h0]) ++ List.replicate (1 - (lg_sl ([.ref h0])).length) Slot.unset).toArray = ls at hl ⊢
  have hl : lv_has ls 1 [(0, .ref h0)] := hl
  refine lv_aload_n hx hb dX0_init_0 rfl (lv_at hl 0 rfl) ?_
  refine W.objInit hx hb hown (hts _ ml_X0_3) (hts _ kx_oi) (hts _ kx_oc) rfl (by rw [hml]; exact hl.1) rfl dX0_init_1 (Nat.le_of_ble_eq_true rfl) (Nat.le_of_ble_eq_true rfl) ?_
  refine W.eq (g2 := F0 m 4 ls []) rfl ?_
  refine lv_aload_n hx hb dX0_init_4 rfl (lv_at hl 0 rfl) ?_
  refine va_new (ci := 5) (fs := [.null, .int 0]) (C := RX5) (T := TX5) (N := 2) hx hb hts hin5 tyX5 tyX5_ok hown (hts _ kx_classLink_RX0_9_RX5) (hts _ kx_instantiable_RX5_2) (hts _ kx_initialized_RX5) hK.1 hP hD hS hA rfl (fun j hj => by rcases (show j = 0 ∨ j = 1 by omega) with rfl | rfl <;> rfl) (Nat.le_of_ble_eq_true rfl) (Nat.le_of_ble_eq_true rfl) dX0_init_5 (fun q0 H hP hD hS => ?_)
  have hP : va_P D vwCl [(h0, .inr (0, [.null, .null, .null, .null])), (q0, .inr (5, [.null, .int 0]))] H := hP
  have hD : va_D A [(h0, .inr (0, [.null, .null, .null, .null])), (q0, .inr (5, [.null, .int 0]))] := hD
  refine W.widen (k := 1) (n := 2) (Nat.le_of_ble_eq_true rfl) (Nat.le_of_ble_eq_true rfl) ?_
  refine lv_dup hx hb dX0_init_8 rfl ?_
  refine lv_iconst (v := 4) hx hb dX0_init_9 (by decide) ?_
  have hPc := hP.sub (ws' := [(q0, .inr (5, [.null, .int 0]))]) [1] rfl
  have hDc := hD.sub (ws' := [(q0, .inr (5, [.null, .int 0]))]) [1] (by decide) rfl
  have hFc := va_free (wc := [(q0, .inr (5, [.null, .int 0]))]) hD hS hA [1] rfl
  refine va_callv (va_runI (As := [.int (nI 4)]) (rest := [.ref q0, .ref h0]) ⟨hx, hb, hml, hown, hts⟩ (c_X5_init l D cI cZ q0 H.size 4 (by decide)) (cw_X0_13 hts rfl rfl ⟨Nat.le_of_ble_eq_true rfl, Nat.le_of_ble_eq_true rfl⟩) (cv_pre hK hPc (hDc.weaken (fun _ _ _ _ => trivial))) rfl rfl hl.1 rfl (lv_room (Nat.le_of_ble_eq_true rfl)) dX0_init_10 ⟨Nat.le_of_ble_eq_true rfl, Nat.le_of_ble_eq_true rfl⟩) hS (fun q _ h => hFc q h) hFc (fun u0 t H1 locs ht hvm hw hB hz1 hk1 hS => ?_)
  obtain ⟨hP1, hD1⟩ := hB
  rw [ht] at hP1
  obtain ⟨hP, hD⟩ := va_join (wr := [(h0, .inr (0, [.null, .null, .null, .null]))]) (w1 := [(q0, .inr (5, [.ref u0, .int 0])), (u0, .inl (cI, (4, .inl (fun _ => 0))))]) hP hD [1] [0] rfl rfl (by decide) (by decide) hk1 hFc hP1 hD1
  generalize H1 = H at hP hS ⊢
  have hP : va_P D vwCl [(h0, .inr (0, [.null, .null, .null, .null])), (q0, .inr (5, [.ref u0, .int 0])), (u0, .inl (cI, (4, .inl (fun _ => 0))))] H := hP
  have hD : va_D A [(h0, .inr (0, [.null, .null, .null, .null])), (q0, .inr (5, [.ref u0, .int 0])), (u0, .inl (cI, (4, .inl (fun _ => 0))))] := hD
  refine W.widen (k := 2) (n := 6) (Nat.le_of_ble_eq_true rfl) (Nat.le_of_ble_eq_true rfl) ?_
  clear hPc hDc hFc hP1 hD1 hk1 hz1 hw
  have hPc := hP.sub (ws' := [(q0, .inr (5, [.ref u0, .int 0])), (u0, .inl (cI, (4, .inl (fun _ => 0))))]) [1, 2] rfl
  have hDc := hD.sub (ws' := [(q0, .inr (5, [.ref u0, .int 0])), (u0, .inl (cI, (4, .inl (fun _ => 0))))]) [1, 2] (by decide) rfl
  have hFc := va_free (wc := [(q0, .inr (5, [.ref u0, .int 0])), (u0, .inl (cI, (4, .inl (fun _ => 0))))]) hD hS hA [1, 2] rfl
  have hpre := cv_pre hK hPc (av := [.ref q0]) (hDc.weaken (fun _ _ _ _ => trivial))
  refine va_callr (va_runV (As := []) (rest := [.ref h0]) ⟨hx, hb, hml, hown, hts⟩ (c_X5_filled l D cI cZ q0 u0 H.size 4 (fun _ => 0)) (cw_X0_16 hts rfl rfl ⟨Nat.le_of_ble_eq_true rfl, Nat.le_of_ble_eq_true rfl⟩) ⟨hpre.1, va_recv hK.1 hPc (show vwCl[5]? = some (RX5, TX5, 2) from rfl) (show ([(q0, .inr (5, [.ref u0, .int 0])), (u0, .inl (cI, (4, .inl (fun _ => 0))))] : va_W)[0]? = some (q0, .inr (5, [.ref u0, .int 0])) from rfl), hpre.2⟩ rfl rfl hl.1 rfl (lv_room (Nat.le_of_ble_eq_true rfl)) dX0_init_13 ⟨Nat.le_of_ble_eq_true rfl, Nat.le_of_ble_eq_true rfl⟩) hS (fun q _ h => hFc q h) hFc (fun _ ra t H1 locs ht hvm hw hB hz1 hk1 hS => ?_)
  obtain ⟨e9, hP1, hD1⟩ := hB
  rw [ht] at hP1
  rw [e9]
  obtain ⟨hP, hD⟩ := va_join (wr := [(h0, .inr (0, [.null, .null, .null, .null]))]) (w1 := [(q0, .inr (5, [.ref u0, .int (nI 4)])), (u0, .inl (cI, (4, .inl (fun _ => 0))))]) hP hD [1, 2] [0] rfl rfl (by decide) (by decide) hk1 hFc hP1 hD1
  generalize H1 = H at hP hS ⊢
  have hP : va_P D vwCl [(h0, .inr (0, [.null, .null, .null, .null])), (q0, .inr (5, [.ref u0, .int (nI 4)])), (u0, .inl (cI, (4, .inl (fun _ => 0))))] H := hP
  have hD : va_D A [(h0, .inr (0, [.null, .null, .null, .null])), (q0, .inr (5, [.ref u0, .int (nI 4)])), (u0, .inl (cI, (4, .inl (fun _ => 0))))] := hD
  refine W.widen (k := 2) (n := 6) (Nat.le_of_ble_eq_true rfl) (Nat.le_of_ble_eq_true rfl) ?_
  clear hPc hDc hFc hP1 hD1 hk1 hz1 hw e9 hpre
  refine va_putF (D := D) (ci := 0) (v := .ref q0) (ty := .object "TwigsAndStones$Row") (C := RX0) (T := TX0) (N := 4) hx hb hts hin0 tyX0 tyX0_ok nmX0 hown hK.1 hP hD hS 0 rfl rfl 0 (by decide) (hts _ fl_X0_20) (fun _ h9 => h9) rfl hin rfl (by decide +kernel) rfl rfl (Nat.le_of_ble_eq_true rfl) dX0_init_16 (fun H locs hP hD hS => ?_)
  have hP : va_P D vwCl [(h0, .inr (0, [.ref q0, .null, .null, .null])), (q0, .inr (5, [.ref u0, .int (nI 4)])), (u0, .inl (cI, (4, .inl (fun _ => 0))))] H := hP
  have hD : va_D A [(h0, .inr (0, [.ref q0, .null, .null, .null])), (q0, .inr (5, [.ref u0, .int (nI 4)])), (u0, .inl (cI, (4, .inl (fun _ => 0))))] := hD
  refine lv_aload_n hx hb dX0_init_19 rfl (lv_at hl 0 rfl) ?_
  refine va_new (ci := 5) (fs := [.null, .int 0]) (C := RX5) (T := TX5) (N := 2) hx hb hts hin5 tyX5 tyX5_ok hown (hts _ kx_classLink_RX0_9_RX5) (hts _ kx_instantiable_RX5_2) (hts _ kx_initialized_RX5) hK.1 hP hD hS hA rfl (fun j hj => by rcases (show j = 0 ∨ j = 1 by omega) with rfl | rfl <;> rfl) (Nat.le_of_ble_eq_true rfl) (Nat.le_of_ble_eq_true rfl) dX0_init_20 (fun q1 H hP hD hS => ?_)
  have hP : va_P D vwCl [(h0, .inr (0, [.ref q0, .null, .null, .null])), (q0, .inr (5, [.ref u0, .int (nI 4)])), (u0, .inl (cI, (4, .inl (fun _ => 0)))), (q1, .inr (5, [.null, .int 0]))] H := hP
  have hD : va_D A [(h0, .inr (0, [.ref q0, .null, .null, .null])), (q0, .inr (5, [.ref u0, .int (nI 4)])), (u0, .inl (cI, (4, .inl (fun _ => 0)))), (q1, .inr (5, [.null, .int 0]))] := hD
  refine W.widen (k := 3) (n := 8) (Nat.le_of_ble_eq_true rfl) (Nat.le_of_ble_eq_true rfl) ?_
  refine lv_dup hx hb dX0_init_23 rfl ?_
  refine lv_bipush (v := 8) hx hb dX0_init_24 (by decide) ?_
  have hPc := hP.sub (ws' := [(q1, .inr (5, [.null, .int 0]))]) [3] rfl
  have hDc := hD.sub (ws' := [(q1, .inr (5, [.null, .int 0]))]) [3] (by decide) rfl
  have hFc := va_free (wc := [(q1, .inr (5, [.null, .int 0]))]) hD hS hA [3] rfl
  refine va_callv (va_runI (As := [.int (nI 8)]) (rest := [.ref q1, .ref h0]) ⟨hx, hb, hml, hown, hts⟩ (c_X5_init l D cI cZ q1 H.size 8 (by decide)) (cw_X0_13 hts rfl rfl ⟨Nat.le_of_ble_eq_true rfl, Nat.le_of_ble_eq_true rfl⟩) (cv_pre hK hPc (hDc.weaken (fun _ _ _ _ => trivial))) rfl rfl hl.1 rfl (lv_room (Nat.le_of_ble_eq_true rfl)) dX0_init_26 ⟨Nat.le_of_ble_eq_true rfl, Nat.le_of_ble_eq_true rfl⟩) hS (fun q _ h => hFc q h) hFc (fun u1 t H1 locs ht hvm hw hB hz1 hk1 hS => ?_)
  obtain ⟨hP1, hD1⟩ := hB
  rw [ht] at hP1
  obtain ⟨hP, hD⟩ := va_join (wr := [(h0, .inr (0, [.ref q0, .null, .null, .null])), (q0, .inr (5, [.ref u0, .int (nI 4)])), (u0, .inl (cI, (4, .inl (fun _ => 0))))]) (w1 := [(q1, .inr (5, [.ref u1, .int 0])), (u1, .inl (cI, (8, .inl (fun _ => 0))))]) hP hD [3] [0, 1, 2] rfl rfl (by decide) (by decide) hk1 hFc hP1 hD1
  generalize H1 = H at hP hS ⊢
  have hP : va_P D vwCl [(h0, .inr (0, [.ref q0, .null, .null, .null])), (q0, .inr (5, [.ref u0, .int (nI 4)])), (u0, .inl (cI, (4, .inl (fun _ => 0)))), (q1, .inr (5, [.ref u1, .int 0])), (u1, .inl (cI, (8, .inl (fun _ => 0))))] H := hP
  have hD : va_D A [(h0, .inr (0, [.ref q0, .null, .null, .null])), (q0, .inr (5, [.ref u0, .int (nI 4)])), (u0, .inl (cI, (4, .inl (fun _ => 0)))), (q1, .inr (5, [.ref u1, .int 0])), (u1, .inl (cI, (8, .inl (fun _ => 0))))] := hD
  refine W.widen (k := 4) (n := 16) (Nat.le_of_ble_eq_true rfl) (Nat.le_of_ble_eq_true rfl) ?_
  clear hPc hDc hFc hP1 hD1 hk1 hz1 hw
  refine va_putF (D := D) (ci := 0) (v := .ref q1) (ty := .object "TwigsAndStones$Row") (C := RX0) (T := TX0) (N := 4) hx hb hts hin0 tyX0 tyX0_ok nmX0 hown hK.1 hP hD hS 0 rfl rfl 1 (by decide) (hts _ fl_X0_24) (fun _ h9 => h9) rfl hin rfl (by decide +kernel) rfl rfl (Nat.le_of_ble_eq_true rfl) dX0_init_29 (fun H locs hP hD hS => ?_)
  have hP : va_P D vwCl [(h0, .inr (0, [.ref q0, .ref q1, .null, .null])), (q0, .inr (5, [.ref u0, .int (nI 4)])), (u0, .inl (cI, (4, .inl (fun _ => 0)))), (q1, .inr (5, [.ref u1, .int 0])), (u1, .inl (cI, (8, .inl (fun _ => 0))))] H := hP
  have hD : va_D A [(h0, .inr (0, [.ref q0, .ref q1, .null, .null])), (q0, .inr (5, [.ref u0, .int (nI 4)])), (u0, .inl (cI, (4, .inl (fun _ => 0)))), (q1, .inr (5, [.ref u1, .int 0])), (u1, .inl (cI, (8, .inl (fun _ => 0))))] := hD
  refine lv_aload_n hx hb dX0_init_32 rfl (lv_at hl 0 rfl) ?_
  refine va_new (ci := 5) (fs := [.null, .int 0]) (C := RX5) (T := TX5) (N := 2) hx hb hts hin5 tyX5 tyX5_ok hown (hts _ kx_classLink_RX0_9_RX5) (hts _ kx_instantiable_RX5_2) (hts _ kx_initialized_RX5) hK.1 hP hD hS hA rfl (fun j hj => by rcases (show j = 0 ∨ j = 1 by omega) with rfl | rfl <;> rfl) (Nat.le_of_ble_eq_true rfl) (Nat.le_of_ble_eq_true rfl) dX0_init_33 (fun q2 H hP hD hS => ?_)
  have hP : va_P D vwCl [(h0, .inr (0, [.ref q0, .ref q1, .null, .null])), (q0, .inr (5, [.ref u0, .int (nI 4)])), (u0, .inl (cI, (4, .inl (fun _ => 0)))), (q1, .inr (5, [.ref u1, .int 0])), (u1, .inl (cI, (8, .inl (fun _ => 0)))), (q2, .inr (5, [.null, .int 0]))] H := hP
  have hD : va_D A [(h0, .inr (0, [.ref q0, .ref q1, .null, .null])), (q0, .inr (5, [.ref u0, .int (nI 4)])), (u0, .inl (cI, (4, .inl (fun _ => 0)))), (q1, .inr (5, [.ref u1, .int 0])), (u1, .inl (cI, (8, .inl (fun _ => 0)))), (q2, .inr (5, [.null, .int 0]))] := hD
  refine W.widen (k := 5) (n := 18) (Nat.le_of_ble_eq_true rfl) (Nat.le_of_ble_eq_true rfl) ?_
  refine lv_dup hx hb dX0_init_36 rfl ?_
  refine lv_bipush (v := 8) hx hb dX0_init_37 (by decide) ?_
  have hPc := hP.sub (ws' := [(q2, .inr (5, [.null, .int 0]))]) [5] rfl
  have hDc := hD.sub (ws' := [(q2, .inr (5, [.null, .int 0]))]) [5] (by decide) rfl
  have hFc := va_free (wc := [(q2, .inr (5, [.null, .int 0]))]) hD hS hA [5] rfl
  refine va_callv (va_runI (As := [.int (nI 8)]) (rest := [.ref q2, .ref h0]) ⟨hx, hb, hml, hown, hts⟩ (c_X5_init l D cI cZ q2 H.size 8 (by decide)) (cw_X0_13 hts rfl rfl ⟨Nat.le_of_ble_eq_true rfl, Nat.le_of_ble_eq_true rfl⟩) (cv_pre hK hPc (hDc.weaken (fun _ _ _ _ => trivial))) rfl rfl hl.1 rfl (lv_room (Nat.le_of_ble_eq_true rfl)) dX0_init_39 ⟨Nat.le_of_ble_eq_true rfl, Nat.le_of_ble_eq_true rfl⟩) hS (fun q _ h => hFc q h) hFc (fun u2 t H1 locs ht hvm hw hB hz1 hk1 hS => ?_)
  obtain ⟨hP1, hD1⟩ := hB
  rw [ht] at hP1
  obtain ⟨hP, hD⟩ := va_join (wr := [(h0, .inr (0, [.ref q0, .ref q1, .null, .null])), (q0, .inr (5, [.ref u0, .int (nI 4)])), (u0, .inl (cI, (4, .inl (fun _ => 0)))), (q1, .inr (5, [.ref u1, .int 0])), (u1, .inl (cI, (8, .inl (fun _ => 0))))]) (w1 := [(q2, .inr (5, [.ref u2, .int 0])), (u2, .inl (cI, (8, .inl (fun _ => 0))))]) hP hD [5] [0, 1, 2, 3, 4] rfl rfl (by decide) (by decide) hk1 hFc hP1 hD1
  generalize H1 = H at hP hS ⊢
  have hP : va_P D vwCl [(h0, .inr (0, [.ref q0, .ref q1, .null, .null])), (q0, .inr (5, [.ref u0, .int (nI 4)])), (u0, .inl (cI, (4, .inl (fun _ => 0)))), (q1, .inr (5, [.ref u1, .int 0])), (u1, .inl (cI, (8, .inl (fun _ => 0)))), (q2, .inr (5, [.ref u2, .int 0])), (u2, .inl (cI, (8, .inl (fun _ => 0))))] H := hP
  have hD : va_D A [(h0, .inr (0, [.ref q0, .ref q1, .null, .null])), (q0, .inr (5, [.ref u0, .int (nI 4)])), (u0, .inl (cI, (4, .inl (fun _ => 0)))), (q1, .inr (5, [.ref u1, .int 0])), (u1, .inl (cI, (8, .inl (fun _ => 0)))), (q2, .inr (5, [.ref u2, .int 0])), (u2, .inl (cI, (8, .inl (fun _ => 0))))] := hD
  refine W.widen (k := 6) (n := 26) (Nat.le_of_ble_eq_true rfl) (Nat.le_of_ble_eq_true rfl) ?_
  clear hPc hDc hFc hP1 hD1 hk1 hz1 hw
  refine va_putF (D := D) (ci := 0) (v := .ref q2) (ty := .object "TwigsAndStones$Row") (C := RX0) (T := TX0) (N := 4) hx hb hts hin0 tyX0 tyX0_ok nmX0 hown hK.1 hP hD hS 0 rfl rfl 2 (by decide) (hts _ fl_X0_27) (fun _ h9 => h9) rfl hin rfl (by decide +kernel) rfl rfl (Nat.le_of_ble_eq_true rfl) dX0_init_42 (fun H locs hP hD hS => ?_)
  have hP : va_P D vwCl [(h0, .inr (0, [.ref q0, .ref q1, .ref q2, .null])), (q0, .inr (5, [.ref u0, .int (nI 4)])), (u0, .inl (cI, (4, .inl (fun _ => 0)))), (q1, .inr (5, [.ref u1, .int 0])), (u1, .inl (cI, (8, .inl (fun _ => 0)))), (q2, .inr (5, [.ref u2, .int 0])), (u2, .inl (cI, (8, .inl (fun _ => 0))))] H := hP
  have hD : va_D A [(h0, .inr (0, [.ref q0, .ref q1, .ref q2, .null])), (q0, .inr (5, [.ref u0, .int (nI 4)])), (u0, .inl (cI, (4, .inl (fun _ => 0)))), (q1, .inr (5, [.ref u1, .int 0])), (u1, .inl (cI, (8, .inl (fun _ => 0)))), (q2, .inr (5, [.ref u2, .int 0])), (u2, .inl (cI, (8, .inl (fun _ => 0))))] := hD
  refine lv_aload_n hx hb dX0_init_45 rfl (lv_at hl 0 rfl) ?_
  refine va_new (ci := 5) (fs := [.null, .int 0]) (C := RX5) (T := TX5) (N := 2) hx hb hts hin5 tyX5 tyX5_ok hown (hts _ kx_classLink_RX0_9_RX5) (hts _ kx_instantiable_RX5_2) (hts _ kx_initialized_RX5) hK.1 hP hD hS hA rfl (fun j hj => by rcases (show j = 0 ∨ j = 1 by omega) with rfl | rfl <;> rfl) (Nat.le_of_ble_eq_true rfl) (Nat.le_of_ble_eq_true rfl) dX0_init_46 (fun q3 H hP hD hS => ?_)
  have hP : va_P D vwCl [(h0, .inr (0, [.ref q0, .ref q1, .ref q2, .null])), (q0, .inr (5, [.ref u0, .int (nI 4)])), (u0, .inl (cI, (4, .inl (fun _ => 0)))), (q1, .inr (5, [.ref u1, .int 0])), (u1, .inl (cI, (8, .inl (fun _ => 0)))), (q2, .inr (5, [.ref u2, .int 0])), (u2, .inl (cI, (8, .inl (fun _ => 0)))), (q3, .inr (5, [.null, .int 0]))] H := hP
  have hD : va_D A [(h0, .inr (0, [.ref q0, .ref q1, .ref q2, .null])), (q0, .inr (5, [.ref u0, .int (nI 4)])), (u0, .inl (cI, (4, .inl (fun _ => 0)))), (q1, .inr (5, [.ref u1, .int 0])), (u1, .inl (cI, (8, .inl (fun _ => 0)))), (q2, .inr (5, [.ref u2, .int 0])), (u2, .inl (cI, (8, .inl (fun _ => 0)))), (q3, .inr (5, [.null, .int 0]))] := hD
  refine W.widen (k := 7) (n := 28) (Nat.le_of_ble_eq_true rfl) (Nat.le_of_ble_eq_true rfl) ?_
  refine lv_dup hx hb dX0_init_49 rfl ?_
  refine lv_bipush (v := 8) hx hb dX0_init_50 (by decide) ?_
  have hPc := hP.sub (ws' := [(q3, .inr (5, [.null, .int 0]))]) [7] rfl
  have hDc := hD.sub (ws' := [(q3, .inr (5, [.null, .int 0]))]) [7] (by decide) rfl
  have hFc := va_free (wc := [(q3, .inr (5, [.null, .int 0]))]) hD hS hA [7] rfl
  refine va_callv (va_runI (As := [.int (nI 8)]) (rest := [.ref q3, .ref h0]) ⟨hx, hb, hml, hown, hts⟩ (c_X5_init l D cI cZ q3 H.size 8 (by decide)) (cw_X0_13 hts rfl rfl ⟨Nat.le_of_ble_eq_true rfl, Nat.le_of_ble_eq_true rfl⟩) (cv_pre hK hPc (hDc.weaken (fun _ _ _ _ => trivial))) rfl rfl hl.1 rfl (lv_room (Nat.le_of_ble_eq_true rfl)) dX0_init_52 ⟨Nat.le_of_ble_eq_true rfl, Nat.le_of_ble_eq_true rfl⟩) hS (fun q _ h => hFc q h) hFc (fun u3 t H1 locs ht hvm hw hB hz1 hk1 hS => ?_)
  obtain ⟨hP1, hD1⟩ := hB
  rw [ht] at hP1
  obtain ⟨hP, hD⟩ := va_join (wr := [(h0, .inr (0, [.ref q0, .ref q1, .ref q2, .null])), (q0, .inr (5, [.ref u0, .int (nI 4)])), (u0, .inl (cI, (4, .inl (fun _ => 0)))), (q1, .inr (5, [.ref u1, .int 0])), (u1, .inl (cI, (8, .inl (fun _ => 0)))), (q2, .inr (5, [.ref u2, .int 0])), (u2, .inl (cI, (8, .inl (fun _ => 0))))]) (w1 := [(q3, .inr (5, [.ref u3, .int 0])), (u3, .inl (cI, (8, .inl (fun _ => 0))))]) hP hD [7] [0, 1, 2, 3, 4, 5, 6] rfl rfl (by decide) (by decide) hk1 hFc hP1 hD1
  generalize H1 = H at hP hS ⊢
  have hP : va_P D vwCl [(h0, .inr (0, [.ref q0, .ref q1, .ref q2, .null])), (q0, .inr (5, [.ref u0, .int (nI 4)])), (u0, .inl (cI, (4, .inl (fun _ => 0)))), (q1, .inr (5, [.ref u1, .int 0])), (u1, .inl (cI, (8, .inl (fun _ => 0)))), (q2, .inr (5, [.ref u2, .int 0])), (u2, .inl (cI, (8, .inl (fun _ => 0)))), (q3, .inr (5, [.ref u3, .int 0])), (u3, .inl (cI, (8, .inl (fun _ => 0))))] H := hP
  have hD : va_D A [(h0, .inr (0, [.ref q0, .ref q1, .ref q2, .null])), (q0, .inr (5, [.ref u0, .int (nI 4)])), (u0, .inl (cI, (4, .inl (fun _ => 0)))), (q1, .inr (5, [.ref u1, .int 0])), (u1, .inl (cI, (8, .inl (fun _ => 0)))), (q2, .inr (5, [.ref u2, .int 0])), (u2, .inl (cI, (8, .inl (fun _ => 0)))), (q3, .inr (5, [.ref u3, .int 0])), (u3, .inl (cI, (8, .inl (fun _ => 0))))] := hD
  refine W.widen (k := 8) (n := 36) (Nat.le_of_ble_eq_true rfl) (Nat.le_of_ble_eq_true rfl) ?_
  clear hPc hDc hFc hP1 hD1 hk1 hz1 hw
  refine va_putF (D := D) (ci := 0) (v := .ref q3) (ty := .object "TwigsAndStones$Row") (C := RX0) (T := TX0) (N := 4) hx hb hts hin0 tyX0 tyX0_ok nmX0 hown hK.1 hP hD hS 0 rfl rfl 3 (by decide) (hts _ fl_X0_30) (fun _ h9 => h9) rfl hin rfl (by decide +kernel) rfl rfl (Nat.le_of_ble_eq_true rfl) dX0_init_55 (fun H locs hP hD hS => ?_)
  have hP : va_P D vwCl [(h0, .inr (0, [.ref q0, .ref q1, .ref q2, .ref q3])), (q0, .inr (5, [.ref u0, .int (nI 4)])), (u0, .inl (cI, (4, .inl (fun _ => 0)))), (q1, .inr (5, [.ref u1, .int 0])), (u1, .inl (cI, (8, .inl (fun _ => 0)))), (q2, .inr (5, [.ref u2, .int 0])), (u2, .inl (cI, (8, .inl (fun _ => 0)))), (q3, .inr (5, [.ref u3, .int 0])), (u3, .inl (cI, (8, .inl (fun _ => 0))))] H := hP
  have hD : va_D A [(h0, .inr (0, [.ref q0, .ref q1, .ref q2, .ref q3])), (q0, .inr (5, [.ref u0, .int (nI 4)])), (u0, .inl (cI, (4, .inl (fun _ => 0)))), (q1, .inr (5, [.ref u1, .int 0])), (u1, .inl (cI, (8, .inl (fun _ => 0)))), (q2, .inr (5, [.ref u2, .int 0])), (u2, .inl (cI, (8, .inl (fun _ => 0)))), (q3, .inr (5, [.ref u3, .int 0])), (u3, .inl (cI, (8, .inl (fun _ => 0))))] := hD
  refine W.widen (k := 8) (n := 36) (Nat.le_of_ble_eq_true rfl) (Nat.le_of_ble_eq_true rfl) ?_
  exact W.vret hx hb hr (fun t ht hW => ⟨⟨adr [q0, u0, q1, u1, q2, u2, q3, u3], rfl, trivial, by rw [ht]; exact hP, hD⟩, hS.F ht⟩) hS.2.2 dX0_init_58
