theorem nw_in : ∀ q ∈ nwL, nwc q ∈ lw_tbl := List.forall_mem_cons.mpr ⟨List.mem_of_getElem? (i := 235) (by decide +kernel), List.forall_mem_cons.mpr ⟨List.mem_of_getElem? (i := 254) (by decide +kernel), List.forall_mem_cons.mpr ⟨List.mem_of_getElem? (i := 61) (by decide +kernel), List.forall_mem_cons.mpr ⟨List.mem_of_getElem? (i := 844) (by decide +kernel), List.forall_mem_cons.mpr ⟨List.mem_of_getElem? (i := 345) (by decide +kernel), List.forall_mem_cons.mpr ⟨List.mem_of_getElem? (i := 317) (by decide +kernel), List.forall_mem_cons.mpr ⟨List.mem_of_getElem? (i := 576) (by decide +kernel), List.forall_mem_cons.mpr ⟨List.mem_of_getElem? (i := 653) (by decide +kernel), List.forall_mem_cons.mpr ⟨List.mem_of_getElem? (i := 471) (by decide +kernel), List.forall_mem_cons.mpr ⟨List.mem_of_getElem? (i := 472) (by decide +kernel), List.forall_mem_cons.mpr ⟨List.mem_of_getElem? (i := 498) (by decide +kernel), fun _ h => absurd h List.not_mem_nil⟩⟩⟩⟩⟩⟩⟩⟩⟩⟩⟩
theorem P_apl {D : va_G} {cl : List vw_C} {X M : va_W} {H : Heap} (h : va_P D cl (X ++ M) H) : va_P D cl X H := fun k q hq => h k q (by rw [List.getElem?_append_left (List.getElem?_eq_some_iff.mp hq).1]; exact hq)
theorem P_apr {D : va_G} {cl : List vw_C} {X M : va_W} {H : Heap} (h : va_P D cl (X ++ M) H) : va_P D cl M H := fun k q hq => h (X.length + k) q (by rw [List.getElem?_append_right (Nat.le_add_right _ _), Nat.add_sub_cancel_left]; exact hq)
theorem D_apl {A : Nat → Prop} {X M : va_W} (h : va_D A (X ++ M)) : va_D A X :=
  have g : ∀ (k : Nat) (q : Nat × va_E), X[k]? = some q → (X ++ M)[k]? = some q := fun k q hq => by rw [List.getElem?_append_left (List.getElem?_eq_some_iff.mp hq).1]; exact hq
  ⟨fun i j p q h1 h2 => h.1 i j p q (g i p h1) (g j q h2), fun k q hq => h.2 k q (g k q hq)⟩
theorem D_apr {A : Nat → Prop} {X M : va_W} (h : va_D A (X ++ M)) : va_D A M :=
  have g : ∀ (k : Nat) (q : Nat × va_E), M[k]? = some q → (X ++ M)[X.length + k]? = some q := fun k q hq => by rw [List.getElem?_append_right (Nat.le_add_right _ _), Nat.add_sub_cancel_left]; exact hq
  ⟨fun i j p q h1 h2 e => by have := h.1 _ _ p q (g i p h1) (g j q h2) e; omega, fun k q hq => h.2 _ q (g k q hq)⟩
theorem D_apx {A : Nat → Prop} {X M : va_W} (h : va_D A (X ++ M)) : ∀ y, y ∈ X.map (·.1) → ¬ y ∈ M.map (·.1) := by
  intro y h1 h2
  obtain ⟨k1, e1, g1⟩ := inW_map.mpr h1
  obtain ⟨k2, e2, g2⟩ := inW_map.mpr h2
  have hl : k1 < X.length := (List.getElem?_eq_some_iff.mp g1).1
  have := h.1 k1 (X.length + k2) (y, e1) (y, e2) (by rw [List.getElem?_append_left hl]; exact g1) (by rw [List.getElem?_append_right (Nat.le_add_right _ _), Nat.add_sub_cancel_left]; exact g2) rfl
  omega
theorem kn_all {s : State} {b : Nat} (hts : ∀ w ∈ big, w.before #[Value.ref b] s = true) : ∃ D : va_G, ∀ (k : Nat) (q : vw_C), vwCl[k]? = some q → u_Kn s q.1 q.2.1 q.2.2 (D.1 k) (D.2 k) := by
  obtain ⟨c0, i0, h0⟩ := u_known (C := RX0) (T := TX0) (N := 4) (n := 4) hts hin0 (hts _ kx_instantiable_RX0_4)
  obtain ⟨c1, i1, h1⟩ := u_known (C := RX1) (T := TX1) (N := 3) (n := 3) hts hin1 (hts _ kx_instantiable_RX1_3)
  obtain ⟨c2, i2, h2⟩ := u_known (C := RX2) (T := TX2) (N := 4) (n := 4) hts hin2 (hts _ kx_instantiable_RX2_4)
  obtain ⟨c3, i3, h3⟩ := u_known (C := RX3) (T := TX3) (N := 4) (n := 4) hts hin3 (hts _ kx_instantiable_RX3_4)
  obtain ⟨c4, i4, h4⟩ := u_known (C := RX4) (T := TX4) (N := 4) (n := 4) hts hin4 (hts _ kx_instantiable_RX4_4)
  obtain ⟨c5, i5, h5⟩ := u_known (C := RX5) (T := TX5) (N := 2) (n := 2) hts hin5 (hts _ kx_instantiable_RX5_2)
  obtain ⟨c6, i6, h6⟩ := u_known (C := RX6) (T := TX6) (N := 11) (n := 11) hts hin6 (hts _ kx_instantiable_RX6_11)
  obtain ⟨c7, i7, h7⟩ := u_known (C := RX7) (T := TX7) (N := 6) (n := 6) hts hin7 (hts _ kx_instantiable_RX7_6)
  obtain ⟨c8, i8, h8⟩ := u_known (C := RX8) (T := TX8) (N := 5) (n := 5) hts hin8 (hts _ kx_instantiable_RX8_5)
  obtain ⟨c9, i9, h9⟩ := u_known (C := RX9) (T := TX9) (N := 8) (n := 8) hts hin9 (hts _ kx_instantiable_RX9_8)
  obtain ⟨c10, i10, h10⟩ := u_known (C := RX10) (T := TX10) (N := 41) (n := 41) hts hin10 (hts _ kx_instantiable_RX10_41)
  refine ⟨(fun k => match k with | 0 => c0 | 1 => c1 | 2 => c2 | 3 => c3 | 4 => c4 | 5 => c5 | 6 => c6 | 7 => c7 | 8 => c8 | 9 => c9 | _ => c10, fun k => match k with | 0 => i0 | 1 => i1 | 2 => i2 | 3 => i3 | 4 => i4 | 5 => i5 | 6 => i6 | 7 => i7 | 8 => i8 | 9 => i9 | _ => i10), ?_⟩
  intro k q hq
  match k, hq with
  | 0, hq => cases hq; exact h0
  | 1, hq => cases hq; exact h1
  | 2, hq => cases hq; exact h2
  | 3, hq => cases hq; exact h3
  | 4, hq => cases hq; exact h4
  | 5, hq => cases hq; exact h5
  | 6, hq => cases hq; exact h6
  | 7, hq => cases hq; exact h7
  | 8, hq => cases hq; exact h8
  | 9, hq => cases hq; exact h9
  | 10, hq => cases hq; exact h10
  | k + 11, hq => simp [vwCl] at hq
theorem arr_all {s : State} {b : Nat} (hts : ∀ w ∈ big, w.before #[Value.ref b] s = true) : ∃ cI cZ : ClassId, (ArrOfT s cI .int ∧ va_RA s cI .int) ∧ (ArrOfT s cZ .boolean ∧ va_RA s cZ .boolean) := by
  obtain ⟨cI, kI, cpI, fI, kI2, kI3⟩ := Cond.arrayClass_spec (hts _ kx_arrI)
  obtain ⟨cZ, kZ, cpZ, fZ, kZ2, kZ3⟩ := Cond.arrayClass_spec (hts _ kx_arrZ)
  exact ⟨cI, cZ, ⟨fun n z => ⟨fun k h => (by cases h), kI, kI2, cpI, kI3⟩, fI⟩, ⟨fun n z => ⟨fun k h => (by cases h), kZ, kZ2, cpZ, kZ3⟩, fZ⟩⟩
theorem kx_all {s : State} {b : Nat} (hts0 : ∀ w ∈ lw_tbl, w.before #[Value.ref b] s = true) : ∃ (D : va_G) (cI cZ : ClassId), KX D cI cZ s := by
  have hts : ∀ w ∈ big, w.before #[Value.ref b] s = true := fun w h => hts0 w (wsL_law_in w h)
  obtain ⟨D, hD⟩ := kn_all hts
  obtain ⟨cI, cZ, h1, h2⟩ := arr_all hts
  refine ⟨D, cI, cZ, ⟨hD, ?_⟩, fun q hq => va_Nw.of rfl (hts0 _ (nw_in q hq))⟩
  intro k q hq
  match k, hq with
  | 0, hq => cases hq; exact h1
  | 1, hq => cases hq; exact h2
  | k + 2, hq => simp at hq
set_option maxHeartbeats 8000000 in
set_option maxRecDepth 100000 in
theorem whole_start {p : Program} {e : Env} {s : State} {m : MethodId} {below : List Frame} {meth : Method} {c : Code} (l : Launch) (hflags : l.flags = flags0) {b L : Nat} {xs : Nat → Int32} (hL : L ≤ 3584) (C0 : lw_At p s m meth c b L xs) : W p l e room_1 s m #[Value.ref b] below meth c s.heap [] 0 0 (lw_Z below #[Value.ref b] s) (entryFrame m ([Value.ref b] : List Value).toArray 4) := by
  obtain ⟨hx, hb, hr, hml, hown, hts0, hX, hbl, hlocks, hgv⟩ := C0
  have hts : ∀ w ∈ big, w.before #[Value.ref b] s = true := fun w h => hts0 w (wsL_law_in w h)
  have hown : s.vm.findClass RL = some m.cls := hown
  obtain ⟨D, cI, cZ, hK⟩ := kx_all hts0
  have hA : ∀ q : Nat, s.heap.size ≤ q → (fun q : Nat => s.heap.size ≤ q) q := fun _ h => h
  have hS : va_S (fun q : Nat => s.heap.size ≤ q) s.heap s.heap [] := va_S.rf
  have hP : va_P D vwCl [] s.heap := P_nil
  have hD : va_D (fun q : Nat => s.heap.size ≤ q) [] := ⟨fun i j p q h => by simp at h, fun k q h => by simp at h⟩
  have hl := lv_entry ([.ref b]) (n := 4) (Nat.le_of_ble_eq_true rfl)
  rw [lg_entry_eq]
  generalize (lg_sl ([.ref b]) ++ List.replicate (4 - (lg_sl ([.ref b])).length) Slot.unset).toArray = ls at hl ⊢
  have hl : lv_has ls 4 [(0, .ref b)] := hl
  refine va_new (ci := 9) (fs := [.null, .null, .null, .null, .null, .null, .null, .null]) (C := RX9) (T := TX9) (N := 8) hx hb hts hin9 tyX9 tyX9_ok hown (hts _ kx_classLink_RL_7_RX9) (hts _ kx_instantiable_RX9_8) (hts _ kx_initialized_RX9) hK.1 hP hD hS hA rfl (fun j hj => by rcases (show j = 0 ∨ j = 1 ∨ j = 2 ∨ j = 3 ∨ j = 4 ∨ j = 5 ∨ j = 6 ∨ j = 7 by omega) with rfl | rfl | rfl | rfl | rfl | rfl | rfl | rfl <;> rfl) (Nat.le_of_ble_eq_true rfl) (Nat.le_of_ble_eq_true rfl) dL_law_0 (fun h0 H hP hD hS => ?_)
  have hP : va_P D vwCl [(h0, .inr (9, [.null, .null, .null, .null, .null, .null, .null, .null]))] H := hP
  have hD : va_D (fun q : Nat => s.heap.size ≤ q) [(h0, .inr (9, [.null, .null, .null, .null, .null, .null, .null, .null]))] := hD
  refine W.widen (k := 1) (n := 8) (Nat.le_of_ble_eq_true rfl) (Nat.le_of_ble_eq_true rfl) ?_
  refine lv_dup hx hb dL_law_3 rfl ?_
  have hFc := va_free (wc := [(h0, .inr (9, [.null, .null, .null, .null, .null, .null, .null, .null]))]) hD hS hA [0] rfl
  refine va_callv (va_runI (As := []) (rest := [.ref h0]) ⟨hx, hb, hml, hown, hts⟩ (c_X9_init l D cI cZ h0 H.size) (cw_L_9 hts rfl rfl ⟨Nat.le_of_ble_eq_true rfl, Nat.le_of_ble_eq_true rfl⟩) (cv_pre hK hP (hD.weaken (fun _ _ _ _ => trivial))) rfl rfl hl.1 rfl (lv_room (Nat.le_of_ble_eq_true rfl)) dL_law_4 ⟨Nat.le_of_ble_eq_true rfl, Nat.le_of_ble_eq_true rfl⟩) hS (fun q _ h => hFc q h) hFc (fun v t H1 locs ht hvm hw hB hz1 hk1 hS => ?_)
  obtain ⟨hP1, hD1⟩ := hB
  rw [ht] at hP1
  have hP1 : va_P D vwCl (wX (ad0 h0 v) cI N0 f0 S0 f0 q0' w0' o0' f0 r0' t0' b0' f0 f0 k0') H1 := hP1
  have hD1 : va_D (va_A [(h0, .inr (9, [.null, .null, .null, .null, .null, .null, .null, .null]))] H.size) (wX (ad0 h0 v) cI N0 f0 S0 f0 q0' w0' o0' f0 r0' t0' b0' f0 f0 k0') := hD1
  obtain ⟨hP, hD⟩ := va_join (wr := []) (w1 := wX (ad0 h0 v) cI N0 f0 S0 f0 q0' w0' o0' f0 r0' t0' b0' f0 f0 k0') hP hD [0] [] rfl rfl (by decide) (by decide) hk1 hFc hP1 hD1
  generalize H1 = H at hP hS ⊢
  have hP : va_P D vwCl (wX (ad0 h0 v) cI N0 f0 S0 f0 q0' w0' o0' f0 r0' t0' b0' f0 f0 k0') H := hP
  have hD : va_D (fun q : Nat => s.heap.size ≤ q) (wX (ad0 h0 v) cI N0 f0 S0 f0 q0' w0' o0' f0 r0' t0' b0' f0 f0 k0') := hD
  refine W.widen (k := 59) (n := 721) (Nat.le_of_ble_eq_true rfl) (Nat.le_of_ble_eq_true rfl) ?_
  clear hFc hP1 hD1 hk1 hz1 hw
  refine lv_astore_n (lv' := [(1, .ref h0), (0, .ref b)]) hx hb dL_law_7 rfl hl (by decide) rfl (fun ls hl => ?_)
  refine va_new (ci := 10) (fs := [.int 0, .null, .null, .null, .int 0, .int 0, .int 0, .null, .null, .null, .null, .null, .null, .null, .null, .int 0, .int 0, .int 0, .int 0, .int 0, .int 0, .null, .null, .int 0, .null, .null, .int 0, .null, .int 0, .null, .null, .null, .int 0, .null, .int 0, .null, .null, .int 0, .null, .null, .null]) (C := RX10) (T := TX10) (N := 41) hx hb hts hin10 tyX10 tyX10_ok hown (hts _ kx_classLink_RL_10_RX10) (hts _ kx_instantiable_RX10_41) (hts _ kx_initialized_RX10) hK.1 hP hD hS hA rfl (fun j hj => by rcases (show j = 0 ∨ j = 1 ∨ j = 2 ∨ j = 3 ∨ j = 4 ∨ j = 5 ∨ j = 6 ∨ j = 7 ∨ j = 8 ∨ j = 9 ∨ j = 10 ∨ j = 11 ∨ j = 12 ∨ j = 13 ∨ j = 14 ∨ j = 15 ∨ j = 16 ∨ j = 17 ∨ j = 18 ∨ j = 19 ∨ j = 20 ∨ j = 21 ∨ j = 22 ∨ j = 23 ∨ j = 24 ∨ j = 25 ∨ j = 26 ∨ j = 27 ∨ j = 28 ∨ j = 29 ∨ j = 30 ∨ j = 31 ∨ j = 32 ∨ j = 33 ∨ j = 34 ∨ j = 35 ∨ j = 36 ∨ j = 37 ∨ j = 38 ∨ j = 39 ∨ j = 40 by omega) with rfl | rfl | rfl | rfl | rfl | rfl | rfl | rfl | rfl | rfl | rfl | rfl | rfl | rfl | rfl | rfl | rfl | rfl | rfl | rfl | rfl | rfl | rfl | rfl | rfl | rfl | rfl | rfl | rfl | rfl | rfl | rfl | rfl | rfl | rfl | rfl | rfl | rfl | rfl | rfl | rfl <;> rfl) (Nat.le_of_ble_eq_true rfl) (Nat.le_of_ble_eq_true rfl) dL_law_8 (fun h1 H hP hD hS => ?_)
  refine W.widen (k := 60) (n := 762) (Nat.le_of_ble_eq_true rfl) (Nat.le_of_ble_eq_true rfl) ?_
  refine lv_dup hx hb dL_law_11 rfl ?_
  have hPc := P_apr hP
  have hDc := D_apr hD
  have hFc : ∀ q, va_A [(h1, .inr (10, [.int 0, .null, .null, .null, .int 0, .int 0, .int 0, .null, .null, .null, .null, .null, .null, .null, .null, .int 0, .int 0, .int 0, .int 0, .int 0, .int 0, .null, .null, .int 0, .null, .null, .int 0, .null, .int 0, .null, .null, .null, .int 0, .null, .int 0, .null, .null, .int 0, .null, .null, .null]))] H.size q → (fun q : Nat => s.heap.size ≤ q) q := va_free (wc := [(h1, .inr (10, [.int 0, .null, .null, .null, .int 0, .int 0, .int 0, .null, .null, .null, .null, .null, .null, .null, .null, .int 0, .int 0, .int 0, .int 0, .int 0, .int 0, .null, .null, .int 0, .null, .null, .int 0, .null, .int 0, .null, .null, .null, .int 0, .null, .int 0, .null, .null, .int 0, .null, .null, .null]))]) hDc hS hA [0] rfl
  refine va_callv (va_runI (As := []) (rest := [.ref h1]) ⟨hx, hb, hml, hown, hts⟩ (c_X10_init l D cI cZ h1 H.size) (cw_L_12 hts rfl rfl ⟨Nat.le_of_ble_eq_true rfl, Nat.le_of_ble_eq_true rfl⟩) (cv_pre hK hPc (hDc.weaken (fun _ _ _ _ => trivial))) rfl rfl hl.1 rfl (lv_room (Nat.le_of_ble_eq_true rfl)) dL_law_12 ⟨Nat.le_of_ble_eq_true rfl, Nat.le_of_ble_eq_true rfl⟩) hS (fun q _ h => hFc q h) hFc (fun u t H1 locs ht hvm hw hB hz1 hk1 hS => ?_)
  obtain ⟨hP1, hD1⟩ := hB
  rw [ht] at hP1
  have hP1 : va_P D vwCl (wM (ad0 h1 u) cI cZ N0 S0 q0' o0' r0' t0' b0' k0' z0') H1 := hP1
  have hD1 : va_D (va_A [(h1, .inr (10, [.int 0, .null, .null, .null, .int 0, .int 0, .int 0, .null, .null, .null, .null, .null, .null, .null, .null, .int 0, .int 0, .int 0, .int 0, .int 0, .int 0, .null, .null, .int 0, .null, .null, .int 0, .null, .int 0, .null, .null, .null, .int 0, .null, .int 0, .null, .null, .int 0, .null, .null, .null]))] H.size) (wM (ad0 h1 u) cI cZ N0 S0 q0' o0' r0' t0' b0' k0' z0') := hD1
  obtain ⟨hP, hD⟩ := va_join (wc := [(h1, .inr (10, [.int 0, .null, .null, .null, .int 0, .int 0, .int 0, .null, .null, .null, .null, .null, .null, .null, .null, .int 0, .int 0, .int 0, .int 0, .int 0, .int 0, .null, .null, .int 0, .null, .null, .int 0, .null, .int 0, .null, .null, .null, .int 0, .null, .int 0, .null, .null, .int 0, .null, .null, .null]))]) (wr := wX (ad0 h0 v) cI N0 f0 S0 f0 q0' w0' o0' f0 r0' t0' b0' f0 f0 k0') (w1 := wM (ad0 h1 u) cI cZ N0 S0 q0' o0' r0' t0' b0' k0' z0') hP hD [59] (List.range 59) rfl rfl (by decide +kernel) (by decide +kernel) hk1 hFc hP1 hD1
  generalize H1 = H at hP hS ⊢
  refine W.widen (k := 600000) (n := 7302249) (Nat.le_of_ble_eq_true rfl) (Nat.le_of_ble_eq_true rfl) ?_
  refine lv_astore_n (lv' := [(2, .ref h1), (1, .ref h0), (0, .ref b)]) hx hb dL_law_15 rfl hl (by decide) rfl (fun ls hl => ?_)
  refine lv_iconst (v := 0) hx hb dL_law_16 (by decide) ?_
  refine lv_istore_n (lv' := [(3, .int 0), (2, .ref h1), (1, .ref h0), (0, .ref b)]) hx hb dL_law_17 rfl hl (by decide) rfl (fun ls hl => ?_)
  exact lw_loop (a := ad0 h0 v) (am := ad0 h1 u) (D := D) (cI := cI) (cZ := cZ) ⟨hx, hb, hml, hown, hts, hX, hbl, hL, hK⟩ ⟨D_apl hD, D_apr hD, D_apx hD⟩ hr hlocks (L + 1) 0 (by omega) (Nat.zero_le _) N0 f0 S0 f0 q0' w0' o0' f0 r0' t0' (fun _ => 1) b0' f0 f0 k0' z0' H locs ls ⟨iv0_N, iv0_S, iv0_Q, Nat.zero_le _, Nat.zero_le _, iv0_R, iv0_T, iv0_F, iv0_K⟩ (P_apl hP) (P_apr hP) hS (lv_sub hl [3, 2, 1, 0] rfl)
