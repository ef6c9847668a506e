abbrev jTg (t : TT) (tt z : Nat) (x : Int32) : TT := (t.1, upd t.2.1 (tt * 6 + z) x, upd t.2.2.1 tt (nI (z + 1)), t.2.2.2.1, t.2.2.2.2)
abbrev jTb (t : TT) (x f : Int32) : TT := (t.1 + 1, upd t.2.1 (t.1 * 6) x, upd (upd t.2.2.1 t.1 0) t.1 (nI 1), upd t.2.2.2.1 t.1 (if f = 0 then 0 else 1), t.2.2.2.2)
set_option maxHeartbeats 4000000 in
set_option maxRecDepth 100000 in
theorem c_X7_goOnTo (l : Launch) (D : va_G) (cI cZ : ClassId) (a : Nat → Nat) (t : TT) (ht6 : t.1 ≤ 6) (tt z : Nat) (htt : tt < t.1) (hz : t.2.2.1 tt = nI z) (hz6 : z < 6) (x : Int32) : MI l D cI cZ yX7_goOnTo wyX7_goOnTo ({ frames := 2, cells := 0, slots := 0, locals := 42 } : Room) [.ref (a 36), .int (nI tt), .int x] (wTr a cI t) (fun r _ => r = nI (z + 1)) (fun (_ : Unit) => wTr a cI (jTg t tt z x)) := by
  refine Met.ofW (cc := cX7_goOnTo) (maxL := 4) (ret := (some .int)) (by decide) rfl ?_
  intro p e s m args below meth c s₁ B hml hv
  obtain ⟨rfl, hK, hP, hD0⟩ := hv
  have hx := B.exec
  have hb := B.bytes
  have hr := B.returns
  have hts0 := atoms_spec (ws := wyX7_goOnTo) B.pre
  have hts : ∀ w ∈ big, w.before _ s = true := fun w h => hts0 w (List.mem_cons_of_mem _ h)
  have hown : s.vm.findClass RX7 = some m.cls := findClass_of_methodNamed B.named
  have hlocks := B.notSynchronized
  have hD := D_inW hD0
  have hS : va_S (inW (wTr a cI t)) s.heap s.heap [] := va_S.rf
  have hl := lv_entry ([.ref (a 36), .int (nI tt), .int x]) (n := 4) (Nat.le_of_ble_eq_true rfl)
  rw [lg_entry_eq]
  generalize (lg_sl ([.ref (a 36), .int (nI tt), .int x]) ++ List.replicate (4 - (lg_sl ([.ref (a 36), .int (nI tt), .int x])).length) Slot.unset).toArray = ls at hl ⊢
  have hl : lv_has ls 4 [(0, .ref (a 36)), (1, .int (nI tt)), (2, .int x)] := hl
  refine lv_aload_n hx hb dX7_goOnTo_0 rfl (lv_at hl 0 rfl) ?_
  refine lv_iload_n hx hb dX7_goOnTo_1 rfl (lv_at hl 1 rfl) ?_
  refine ro_V (As := [.int (nI tt)]) (rest := []) ⟨hx, hb, hml, hown, hts⟩ (c_X7_sizeOf l D cI cZ a t ht6 (nI tt)) (cw_X7_60 hts rfl rfl ⟨Nat.le_of_ble_eq_true rfl, Nat.le_of_ble_eq_true rfl⟩) hK hP (ci := 7) rfl rfl rfl hl.1 rfl (Nat.le_of_ble_eq_true rfl) dX7_goOnTo_2 ⟨Nat.zero_le _, Nat.zero_le _⟩ ?_
  rw [rg_in htt (show t.1 < 2 ^ 31 by omega), hz]
  refine lv_istore_n (lv' := [(3, .int (nI z)), (0, .ref (a 36)), (1, .int (nI tt)), (2, .int x)]) hx hb dX7_goOnTo_5 rfl hl (by decide) rfl (fun ls hl => ?_)
  refine lv_aload_n hx hb dX7_goOnTo_6 rfl (lv_at hl 1 rfl) ?_
  refine va_get (D := D) (ci := 7) (v := .ref (a 37)) (C := RX7) (T := TX7) (N := 6) hx hb hts hin7 hown hK.1 hP 0 rfl rfl 2 (by decide) (hts _ fl_X7_20) (fun _ h9 => h9) rfl dX7_goOnTo_7 ?_
  refine lv_iload_n hx hb dX7_goOnTo_10 rfl (lv_at hl 2 rfl) ?_
  refine lv_bipush (v := 6) hx hb dX7_goOnTo_11 (by decide) ?_
  refine lv_imul hx hb dX7_goOnTo_13 ?_
  rw [show nI tt * 6 = nI (tt * 6) from pk_mul tt 6]
  refine lv_iload_n hx hb dX7_goOnTo_14 rfl (lv_at hl 0 rfl) ?_
  refine lv_iadd hx hb dX7_goOnTo_15 ?_
  rw [nI_add]
  refine lv_iload_n hx hb dX7_goOnTo_16 rfl (lv_at hl 3 rfl) ?_
  refine mv_V2 (As := [.int (nI (tt * 6 + z)), .int x]) (rest := []) ⟨hx, hb, hml, hown, hts⟩ (c_X5_put l D cI cZ (a 37) (a 38) 36 36 (t.2.1) (by decide) (by decide) (nI (tt * 6 + z)) x) (cw_X7_74 hts rfl rfl ⟨Nat.le_of_ble_eq_true rfl, Nat.le_of_ble_eq_true rfl⟩) hK hP hD hS 7 rfl [1, 2] [0, 3, 4, 5, 6] (fun (_ : Unit) => ([((a 36), .inr (7, [.ref (a 1), .ref (a 33), .ref (a 37), .ref (a 39), .ref (a 41), .int t.2.2.2.2])), ((a 37), .inr (5, [.ref (a 38), .int (nI 36)])), ((a 38), .inl (cI, (36, .inl (rp 36 (t.2.1) (nI (tt * 6 + z)) x)))), ((a 39), .inr (5, [.ref (a 40), .int (nI (t.1))])), ((a 40), .inl (cI, (6, .inl (t.2.2.1)))), ((a 41), .inr (5, [.ref (a 42), .int (nI (t.1))])), ((a 42), .inl (cI, (6, .inl (t.2.2.2.1))))] : va_W)) rfl (by decide) (fun u => rfl) [(a 37), (a 38)] rfl (fun u => rfl) ([((a 36), .inr (7, [.ref (a 1), .ref (a 33), .ref (a 37), .ref (a 39), .ref (a 41), .int t.2.2.2.2])), ((a 39), .inr (5, [.ref (a 40), .int (nI (t.1))])), ((a 40), .inl (cI, (6, .inl (t.2.2.1)))), ((a 41), .inr (5, [.ref (a 42), .int (nI (t.1))])), ((a 42), .inl (cI, (6, .inl (t.2.2.2.1))))] : va_W) rfl (fun u => rfl) [(a 36), (a 37), (a 38), (a 39), (a 40), (a 41), (a 42)] rfl (fun u => rfl) (by decide) (by decide) (by decide) (ci := 5) rfl rfl rfl hl.1 rfl (Nat.le_of_ble_eq_true rfl) dX7_goOnTo_17 ⟨Nat.zero_le _, Nat.zero_le _⟩ (fun u H locs hp hP hD hS => ?_)
  have hrp : rp 36 (t.2.1) (nI (tt * 6 + z)) x = upd (t.2.1) (tt * 6 + z) x := rp_in (show tt * 6 + z < 36 by omega) (by decide)
  rw [hrp] at hP hD
  clear hrp
  have hP : va_P D vwCl (([((a 36), .inr (7, [.ref (a 1), .ref (a 33), .ref (a 37), .ref (a 39), .ref (a 41), .int t.2.2.2.2])), ((a 37), .inr (5, [.ref (a 38), .int (nI 36)])), ((a 38), .inl (cI, (36, .inl (upd (t.2.1) (tt * 6 + z) x)))), ((a 39), .inr (5, [.ref (a 40), .int (nI (t.1))])), ((a 40), .inl (cI, (6, .inl (t.2.2.1)))), ((a 41), .inr (5, [.ref (a 42), .int (nI (t.1))])), ((a 42), .inl (cI, (6, .inl (t.2.2.2.1))))] : va_W)) H := hP
  have hD : va_D _ (([((a 36), .inr (7, [.ref (a 1), .ref (a 33), .ref (a 37), .ref (a 39), .ref (a 41), .int t.2.2.2.2])), ((a 37), .inr (5, [.ref (a 38), .int (nI 36)])), ((a 38), .inl (cI, (36, .inl (upd (t.2.1) (tt * 6 + z) x)))), ((a 39), .inr (5, [.ref (a 40), .int (nI (t.1))])), ((a 40), .inl (cI, (6, .inl (t.2.2.1)))), ((a 41), .inr (5, [.ref (a 42), .int (nI (t.1))])), ((a 42), .inl (cI, (6, .inl (t.2.2.2.1))))] : va_W)) := hD
  refine lv_aload_n hx hb dX7_goOnTo_20 rfl (lv_at hl 1 rfl) ?_
  refine va_get (D := D) (ci := 7) (v := .ref (a 39)) (C := RX7) (T := TX7) (N := 6) hx hb hts hin7 hown hK.1 hP 0 rfl rfl 3 (by decide) (hts _ fl_X7_24) (fun _ h9 => h9) rfl dX7_goOnTo_21 ?_
  refine lv_iload_n hx hb dX7_goOnTo_24 rfl (lv_at hl 2 rfl) ?_
  refine lv_iload_n hx hb dX7_goOnTo_25 rfl (lv_at hl 0 rfl) ?_
  refine lv_iconst (v := 1) hx hb dX7_goOnTo_26 (by decide) ?_
  refine lv_iadd hx hb dX7_goOnTo_27 ?_
  rw [nI_1]
  refine mv_V2 (As := [.int (nI tt), .int (nI (z + 1))]) (rest := []) ⟨hx, hb, hml, hown, hts⟩ (c_X5_put l D cI cZ (a 39) (a 40) 6 (t.1) (t.2.2.1) ht6 (by decide) (nI tt) (nI (z + 1))) (cw_X7_74 hts rfl rfl ⟨Nat.le_of_ble_eq_true rfl, Nat.le_of_ble_eq_true rfl⟩) hK hP hD hS 7 rfl [3, 4] [0, 1, 2, 5, 6] (fun (_ : Unit) => ([((a 36), .inr (7, [.ref (a 1), .ref (a 33), .ref (a 37), .ref (a 39), .ref (a 41), .int t.2.2.2.2])), ((a 37), .inr (5, [.ref (a 38), .int (nI 36)])), ((a 38), .inl (cI, (36, .inl (upd (t.2.1) (tt * 6 + z) x)))), ((a 39), .inr (5, [.ref (a 40), .int (nI (t.1))])), ((a 40), .inl (cI, (6, .inl (rp (t.1) (t.2.2.1) (nI tt) (nI (z + 1)))))), ((a 41), .inr (5, [.ref (a 42), .int (nI (t.1))])), ((a 42), .inl (cI, (6, .inl (t.2.2.2.1))))] : va_W)) rfl (by decide) (fun u => rfl) [(a 39), (a 40)] rfl (fun u => rfl) ([((a 36), .inr (7, [.ref (a 1), .ref (a 33), .ref (a 37), .ref (a 39), .ref (a 41), .int t.2.2.2.2])), ((a 37), .inr (5, [.ref (a 38), .int (nI 36)])), ((a 38), .inl (cI, (36, .inl (upd (t.2.1) (tt * 6 + z) x)))), ((a 41), .inr (5, [.ref (a 42), .int (nI (t.1))])), ((a 42), .inl (cI, (6, .inl (t.2.2.2.1))))] : va_W) rfl (fun u => rfl) [(a 36), (a 37), (a 38), (a 39), (a 40), (a 41), (a 42)] rfl (fun u => rfl) (by decide) (by decide) (by decide) (ci := 5) rfl rfl rfl hl.1 rfl (Nat.le_of_ble_eq_true rfl) dX7_goOnTo_28 ⟨Nat.zero_le _, Nat.zero_le _⟩ (fun u H locs hp hP hD hS => ?_)
  have hrp : rp (t.1) (t.2.2.1) (nI tt) (nI (z + 1)) = upd (t.2.2.1) tt (nI (z + 1)) := rp_in htt (show (t.1) < 2 ^ 31 by have := ht6; omega)
  rw [hrp] at hP hD
  clear hrp
  have hP : va_P D vwCl (([((a 36), .inr (7, [.ref (a 1), .ref (a 33), .ref (a 37), .ref (a 39), .ref (a 41), .int t.2.2.2.2])), ((a 37), .inr (5, [.ref (a 38), .int (nI 36)])), ((a 38), .inl (cI, (36, .inl (upd (t.2.1) (tt * 6 + z) x)))), ((a 39), .inr (5, [.ref (a 40), .int (nI (t.1))])), ((a 40), .inl (cI, (6, .inl (upd (t.2.2.1) tt (nI (z + 1)))))), ((a 41), .inr (5, [.ref (a 42), .int (nI (t.1))])), ((a 42), .inl (cI, (6, .inl (t.2.2.2.1))))] : va_W)) H := hP
  have hD : va_D _ (([((a 36), .inr (7, [.ref (a 1), .ref (a 33), .ref (a 37), .ref (a 39), .ref (a 41), .int t.2.2.2.2])), ((a 37), .inr (5, [.ref (a 38), .int (nI 36)])), ((a 38), .inl (cI, (36, .inl (upd (t.2.1) (tt * 6 + z) x)))), ((a 39), .inr (5, [.ref (a 40), .int (nI (t.1))])), ((a 40), .inl (cI, (6, .inl (upd (t.2.2.1) tt (nI (z + 1)))))), ((a 41), .inr (5, [.ref (a 42), .int (nI (t.1))])), ((a 42), .inl (cI, (6, .inl (t.2.2.2.1))))] : va_W)) := hD
  refine lv_iload_n hx hb dX7_goOnTo_31 rfl (lv_at hl 0 rfl) ?_
  refine lv_iconst (v := 1) hx hb dX7_goOnTo_32 (by decide) ?_
  refine lv_iadd hx hb dX7_goOnTo_33 ?_
  rw [nI_1]
  exact mu_iret (v := (nI (z + 1))) hx hb hr hlocks (()) (rfl) (hP) hS dX7_goOnTo_34

set_option maxHeartbeats 4000000 in
set_option maxRecDepth 100000 in
theorem c_X7_begin (l : Launch) (D : va_G) (cI cZ : ClassId) (a : Nat → Nat) (t : TT) (ht6 : t.1 < 6) (x f : Int32) : MI l D cI cZ yX7_begin wyX7_begin ({ frames := 3, cells := 0, slots := 0, locals := 65 } : Room) [.ref (a 36), .int x, .int f] (wTr a cI t) (fun r _ => r = nI t.1) (fun (_ : Unit) => wTr a cI (jTb t x f)) := by
  refine Met.ofW (cc := cX7_begin) (maxL := 4) (ret := (some .int)) (by decide) rfl ?_
  intro p e s m args below meth c s₁ B hml hv
  obtain ⟨rfl, hK, hP, hD0⟩ := hv
  have hx := B.exec
  have hb := B.bytes
  have hr := B.returns
  have hts0 := atoms_spec (ws := wyX7_begin) B.pre
  have hts : ∀ w ∈ big, w.before _ s = true := fun w h => hts0 w (List.mem_cons_of_mem _ h)
  have hown : s.vm.findClass RX7 = some m.cls := findClass_of_methodNamed B.named
  have hlocks := B.notSynchronized
  have hD := D_inW hD0
  have hS : va_S (inW (wTr a cI t)) s.heap s.heap [] := va_S.rf
  have hl := lv_entry ([.ref (a 36), .int x, .int f]) (n := 4) (Nat.le_of_ble_eq_true rfl)
  rw [lg_entry_eq]
  generalize (lg_sl ([.ref (a 36), .int x, .int f]) ++ List.replicate (4 - (lg_sl ([.ref (a 36), .int x, .int f])).length) Slot.unset).toArray = ls at hl ⊢
  have hl : lv_has ls 4 [(0, .ref (a 36)), (1, .int x), (2, .int f)] := hl
  refine lv_aload_n hx hb dX7_begin_0 rfl (lv_at hl 0 rfl) ?_
  refine ro_V (As := []) (rest := []) ⟨hx, hb, hml, hown, hts⟩ (c_X7_trailCount l D cI cZ a t (Nat.le_of_lt ht6)) (cw_X7_50 hts rfl rfl ⟨Nat.le_of_ble_eq_true rfl, Nat.le_of_ble_eq_true rfl⟩) hK hP (ci := 7) rfl rfl rfl hl.1 rfl (Nat.le_of_ble_eq_true rfl) dX7_begin_1 ⟨Nat.zero_le _, Nat.zero_le _⟩ ?_
  refine lv_istore_n (lv' := [(3, .int (nI t.1)), (0, .ref (a 36)), (1, .int x), (2, .int f)]) hx hb dX7_begin_4 rfl hl (by decide) rfl (fun ls hl => ?_)
  refine lv_aload_n hx hb dX7_begin_5 rfl (lv_at hl 1 rfl) ?_
  refine va_get (D := D) (ci := 7) (v := .ref (a 39)) (C := RX7) (T := TX7) (N := 6) hx hb hts hin7 hown hK.1 hP 0 rfl rfl 3 (by decide) (hts _ fl_X7_24) (fun _ h9 => h9) rfl dX7_begin_6 ?_
  refine lv_iconst (v := 0) hx hb dX7_begin_9 (by decide) ?_
  refine mi_V2 (As := [.int 0]) (rest := []) ⟨hx, hb, hml, hown, hts⟩ (c_X5_push l D cI cZ (a 39) (a 40) 6 (t.1) (t.2.2.1) ht6 (by decide) 0) (cw_X7_53 hts rfl rfl ⟨Nat.le_of_ble_eq_true rfl, Nat.le_of_ble_eq_true rfl⟩) hK hP hD hS 7 rfl [3, 4] [0, 1, 2, 5, 6] (fun (_ : Unit) => ([((a 36), .inr (7, [.ref (a 1), .ref (a 33), .ref (a 37), .ref (a 39), .ref (a 41), .int t.2.2.2.2])), ((a 37), .inr (5, [.ref (a 38), .int (nI 36)])), ((a 38), .inl (cI, (36, .inl (t.2.1)))), ((a 39), .inr (5, [.ref (a 40), .int (nI ((t.1) + 1))])), ((a 40), .inl (cI, (6, .inl (upd (t.2.2.1) (t.1) 0)))), ((a 41), .inr (5, [.ref (a 42), .int (nI (t.1))])), ((a 42), .inl (cI, (6, .inl (t.2.2.2.1))))] : va_W)) rfl (by decide) (fun u => rfl) [(a 39), (a 40)] rfl (fun u => rfl) ([((a 36), .inr (7, [.ref (a 1), .ref (a 33), .ref (a 37), .ref (a 39), .ref (a 41), .int t.2.2.2.2])), ((a 37), .inr (5, [.ref (a 38), .int (nI 36)])), ((a 38), .inl (cI, (36, .inl (t.2.1)))), ((a 41), .inr (5, [.ref (a 42), .int (nI (t.1))])), ((a 42), .inl (cI, (6, .inl (t.2.2.2.1))))] : va_W) rfl (fun u => rfl) [(a 36), (a 37), (a 38), (a 39), (a 40), (a 41), (a 42)] rfl (fun u => rfl) (by decide) (by decide) (by decide) (ci := 5) rfl rfl rfl hl.1 rfl (Nat.le_of_ble_eq_true rfl) dX7_begin_10 ⟨Nat.zero_le _, Nat.zero_le _⟩ (fun r u H locs hp hP hD hS => ?_)
  have hp : r = nI ((t.1) + 1) := hp
  subst hp
  have hP : va_P D vwCl (([((a 36), .inr (7, [.ref (a 1), .ref (a 33), .ref (a 37), .ref (a 39), .ref (a 41), .int t.2.2.2.2])), ((a 37), .inr (5, [.ref (a 38), .int (nI 36)])), ((a 38), .inl (cI, (36, .inl (t.2.1)))), ((a 39), .inr (5, [.ref (a 40), .int (nI ((t.1) + 1))])), ((a 40), .inl (cI, (6, .inl (upd (t.2.2.1) (t.1) 0)))), ((a 41), .inr (5, [.ref (a 42), .int (nI (t.1))])), ((a 42), .inl (cI, (6, .inl (t.2.2.2.1))))] : va_W)) H := hP
  have hD : va_D _ (([((a 36), .inr (7, [.ref (a 1), .ref (a 33), .ref (a 37), .ref (a 39), .ref (a 41), .int t.2.2.2.2])), ((a 37), .inr (5, [.ref (a 38), .int (nI 36)])), ((a 38), .inl (cI, (36, .inl (t.2.1)))), ((a 39), .inr (5, [.ref (a 40), .int (nI ((t.1) + 1))])), ((a 40), .inl (cI, (6, .inl (upd (t.2.2.1) (t.1) 0)))), ((a 41), .inr (5, [.ref (a 42), .int (nI (t.1))])), ((a 42), .inl (cI, (6, .inl (t.2.2.2.1))))] : va_W)) := hD
  refine lv_pop hx hb dX7_begin_13 rfl ?_
  refine lv_aload_n hx hb dX7_begin_14 rfl (lv_at hl 1 rfl) ?_
  refine va_get (D := D) (ci := 7) (v := .ref (a 41)) (C := RX7) (T := TX7) (N := 6) hx hb hts hin7 hown hK.1 hP 0 rfl rfl 4 (by decide) (hts _ fl_X7_27) (fun _ h9 => h9) rfl dX7_begin_15 ?_
  refine w_joinH (α := Int32) (D := D) (H0 := s.heap) (A := inW (wTr a cI t)) (fun a9 => a9 = (if f = 0 then 0 else 1)) (fun a9 => ([((a 36), .inr (7, [.ref (a 1), .ref (a 33), .ref (a 37), .ref (a 39), .ref (a 41), .int t.2.2.2.2])), ((a 37), .inr (5, [.ref (a 38), .int (nI 36)])), ((a 38), .inl (cI, (36, .inl (t.2.1)))), ((a 39), .inr (5, [.ref (a 40), .int (nI ((t.1) + 1))])), ((a 40), .inl (cI, (6, .inl (upd (t.2.2.1) (t.1) 0)))), ((a 41), .inr (5, [.ref (a 42), .int (nI (t.1))])), ((a 42), .inl (cI, (6, .inl (t.2.2.2.1))))] : va_W)) (fun a9 => [(0, .ref (a 36)), (1, .int x), (2, .int f), (3, .int (nI t.1))]) (fun a9 => [.int a9, .ref (a 41)]) 27 4 (fun hJ_27 => ?_) ?_
  · skip
    refine lv_iload_n hx hb dX7_begin_18 rfl (lv_at hl 3 rfl) ?_
    refine lv_if_eq (tgt := 26) hx hb dX7_begin_19 (by decide) (fun c_1 => ?_) (fun c_1 => ?_)
    · skip
      refine lv_iconst (v := 0) hx hb dX7_begin_26 (by decide) ?_
      exact hJ_27 0 ls H locs (show 0 = (if f = 0 then 0 else 1) from by first | exact (if_pos c_1).symm | exact (if_neg c_1).symm) (show lv_has ls 4 [(0, .ref (a 36)), (1, .int x), (2, .int f), (3, .int (nI t.1))] from lv_sub hl [1, 2, 3, 0] rfl) hP hD hS
    · skip
      refine lv_iconst (v := 1) hx hb dX7_begin_22 (by decide) ?_
      refine lv_goto (tgt := 27) hx hb dX7_begin_23 (by decide) ?_
      exact hJ_27 1 ls H locs (show 1 = (if f = 0 then 0 else 1) from by first | exact (if_pos c_1).symm | exact (if_neg c_1).symm) (show lv_has ls 4 [(0, .ref (a 36)), (1, .int x), (2, .int f), (3, .int (nI t.1))] from lv_sub hl [1, 2, 3, 0] rfl) hP hD hS
  · skip
    intro a9 ls H locs hI hl hP hD hS
    obtain ⟨y, rfl⟩ : ∃ z, z = a9 := ⟨a9, rfl⟩
    have hI : y = (if f = 0 then 0 else 1) := hI
    subst hI
    have hl : lv_has ls 4 [(0, .ref (a 36)), (1, .int x), (2, .int f), (3, .int (nI t.1))] := hl
    have hP : va_P D vwCl (([((a 36), .inr (7, [.ref (a 1), .ref (a 33), .ref (a 37), .ref (a 39), .ref (a 41), .int t.2.2.2.2])), ((a 37), .inr (5, [.ref (a 38), .int (nI 36)])), ((a 38), .inl (cI, (36, .inl (t.2.1)))), ((a 39), .inr (5, [.ref (a 40), .int (nI ((t.1) + 1))])), ((a 40), .inl (cI, (6, .inl (upd (t.2.2.1) (t.1) 0)))), ((a 41), .inr (5, [.ref (a 42), .int (nI (t.1))])), ((a 42), .inl (cI, (6, .inl (t.2.2.2.1))))] : va_W)) H := hP
    have hD : va_D _ (([((a 36), .inr (7, [.ref (a 1), .ref (a 33), .ref (a 37), .ref (a 39), .ref (a 41), .int t.2.2.2.2])), ((a 37), .inr (5, [.ref (a 38), .int (nI 36)])), ((a 38), .inl (cI, (36, .inl (t.2.1)))), ((a 39), .inr (5, [.ref (a 40), .int (nI ((t.1) + 1))])), ((a 40), .inl (cI, (6, .inl (upd (t.2.2.1) (t.1) 0)))), ((a 41), .inr (5, [.ref (a 42), .int (nI (t.1))])), ((a 42), .inl (cI, (6, .inl (t.2.2.2.1))))] : va_W)) := hD
    refine mi_V2 (As := [.int (if f = 0 then 0 else 1)]) (rest := []) ⟨hx, hb, hml, hown, hts⟩ (c_X5_push l D cI cZ (a 41) (a 42) 6 (t.1) (t.2.2.2.1) ht6 (by decide) (if f = 0 then 0 else 1)) (cw_X7_53 hts rfl rfl ⟨Nat.le_of_ble_eq_true rfl, Nat.le_of_ble_eq_true rfl⟩) hK hP hD hS 7 rfl [5, 6] [0, 1, 2, 3, 4] (fun (_ : Unit) => wTr a cI (t.1 + 1, t.2.1, upd t.2.2.1 t.1 0, upd t.2.2.2.1 t.1 (if f = 0 then 0 else 1), t.2.2.2.2)) rfl (by decide) (fun u => rfl) [(a 41), (a 42)] rfl (fun u => rfl) ([((a 36), .inr (7, [.ref (a 1), .ref (a 33), .ref (a 37), .ref (a 39), .ref (a 41), .int t.2.2.2.2])), ((a 37), .inr (5, [.ref (a 38), .int (nI 36)])), ((a 38), .inl (cI, (36, .inl (t.2.1)))), ((a 39), .inr (5, [.ref (a 40), .int (nI ((t.1) + 1))])), ((a 40), .inl (cI, (6, .inl (upd (t.2.2.1) (t.1) 0))))] : va_W) rfl (fun u => rfl) [(a 36), (a 37), (a 38), (a 39), (a 40), (a 41), (a 42)] rfl (fun u => rfl) (by decide) (by decide) (by decide) (ci := 5) rfl rfl rfl hl.1 rfl (Nat.le_of_ble_eq_true rfl) dX7_begin_27 ⟨Nat.zero_le _, Nat.zero_le _⟩ (fun r u H locs hp hP hD hS => ?_)
    have hp : r = nI ((t.1) + 1) := hp
    subst hp
    have hP : va_P D vwCl (wTr a cI (t.1 + 1, t.2.1, upd t.2.2.1 t.1 0, upd t.2.2.2.1 t.1 (if f = 0 then 0 else 1), t.2.2.2.2)) H := hP
    have hD : va_D _ (wTr a cI (t.1 + 1, t.2.1, upd t.2.2.1 t.1 0, upd t.2.2.2.1 t.1 (if f = 0 then 0 else 1), t.2.2.2.2)) := hD
    refine lv_pop hx hb dX7_begin_30 rfl ?_
    refine lv_aload_n hx hb dX7_begin_31 rfl (lv_at hl 0 rfl) ?_
    refine lv_iload_n hx hb dX7_begin_32 rfl (lv_at hl 3 rfl) ?_
    refine lv_iload_n hx hb dX7_begin_33 rfl (lv_at hl 1 rfl) ?_
    refine mi_V2 (As := [.int (nI t.1), .int x]) (rest := []) ⟨hx, hb, hml, hown, hts⟩ (c_X7_goOnTo l D cI cZ a (t.1 + 1, t.2.1, upd t.2.2.1 t.1 0, upd t.2.2.2.1 t.1 (if f = 0 then 0 else 1), t.2.2.2.2) (show t.1 + 1 ≤ 6 by omega) t.1 0 (show t.1 < t.1 + 1 by omega) (show upd t.2.2.1 t.1 0 t.1 = nI 0 by rw [pk_us]; rfl) (by omega) x) (cw_X7_56 hts rfl rfl ⟨Nat.le_of_ble_eq_true rfl, Nat.le_of_ble_eq_true rfl⟩) hK hP hD hS 7 rfl [0, 1, 2, 3, 4, 5, 6] [] (fun (_ : Unit) => wTr a cI (jTg (t.1 + 1, t.2.1, upd t.2.2.1 t.1 0, upd t.2.2.2.1 t.1 (if f = 0 then 0 else 1), t.2.2.2.2) t.1 0 x)) rfl (by decide) (fun u => rfl) [(a 36), (a 37), (a 38), (a 39), (a 40), (a 41), (a 42)] rfl (fun u => rfl) ([] : va_W) rfl (fun u => rfl) [(a 36), (a 37), (a 38), (a 39), (a 40), (a 41), (a 42)] rfl (fun u => rfl) (by decide) (by decide) (by decide) (ci := 7) rfl rfl rfl hl.1 rfl (Nat.le_of_ble_eq_true rfl) dX7_begin_34 ⟨Nat.zero_le _, Nat.zero_le _⟩ (fun r u H locs hp hP hD hS => ?_)
    have hP : va_P D vwCl (wTr a cI (jTg (t.1 + 1, t.2.1, upd t.2.2.1 t.1 0, upd t.2.2.2.1 t.1 (if f = 0 then 0 else 1), t.2.2.2.2) t.1 0 x)) H := hP
    have hD : va_D _ (wTr a cI (jTg (t.1 + 1, t.2.1, upd t.2.2.1 t.1 0, upd t.2.2.2.1 t.1 (if f = 0 then 0 else 1), t.2.2.2.2) t.1 0 x)) := hD
    refine lv_pop hx hb dX7_begin_37 rfl ?_
    refine lv_iload_n hx hb dX7_begin_38 rfl (lv_at hl 3 rfl) ?_
    exact mu_iret (v := (nI t.1)) hx hb hr hlocks (()) (rfl) (hP) hS dX7_begin_39

set_option maxHeartbeats 4000000 in
set_option maxRecDepth 100000 in
theorem c_X7_faultsOf (l : Launch) (D : va_G) (cI cZ : ClassId) (a : Nat → Nat) (t : TT) (ht6 : t.1 ≤ 6) (zf : Nat → Nat) (hzf : ∀ i, i < t.1 → t.2.2.1 i = nI (zf i) ∧ zf i ≤ 6) (ro : TR) (hr10 : ro.1 ≤ 10) (N : TN) (pb : Nat → Int32) (hN16 : N_n N ≤ 16) (tt : Nat) (htt : tt < t.1) : RO l D cI cZ yX7_faultsOf wyX7_faultsOf ({ frames := 5, cells := 0, slots := 0, locals := 111 } : Room) [.ref (a 36), .int (nI tt)] (wTr a cI t ++ wRt a cI ro ++ wNet a cI N pb) (jFt N pb t zf ro tt) := by
  refine Met.ofW (cc := cX7_faultsOf) (maxL := 4) (ret := (some .int)) (by decide) rfl ?_
  intro p e s m args below meth c s₁ B hml hv
  obtain ⟨rfl, hK, hP⟩ := hv
  have hx := B.exec
  have hb := B.bytes
  have hr := B.returns
  have hts0 := atoms_spec (ws := wyX7_faultsOf) B.pre
  have hts : ∀ w ∈ big, w.before _ s = true := fun w h => hts0 w (List.mem_cons_of_mem _ h)
  have hown : s.vm.findClass RX7 = some m.cls := findClass_of_methodNamed B.named
  have hlocks := B.notSynchronized
  have hl := lv_entry ([.ref (a 36), .int (nI tt)]) (n := 4) (Nat.le_of_ble_eq_true rfl)
  rw [lg_entry_eq]
  generalize (lg_sl ([.ref (a 36), .int (nI tt)]) ++ List.replicate (4 - (lg_sl ([.ref (a 36), .int (nI tt)])).length) Slot.unset).toArray = ls at hl ⊢
  have hl : lv_has ls 4 [(0, .ref (a 36)), (1, .int (nI tt))] := hl
  refine lv_aload_n hx hb dX7_faultsOf_0 rfl (lv_at hl 0 rfl) ?_
  refine lv_iload_n hx hb dX7_faultsOf_1 rfl (lv_at hl 1 rfl) ?_
  refine ro_V (As := [.int (nI tt)]) (rest := []) ⟨hx, hb, hml, hown, hts⟩ (c_X7_isFalse l D cI cZ a t ht6 (nI tt)) (cw_X7_78 hts rfl rfl ⟨Nat.le_of_ble_eq_true rfl, Nat.le_of_ble_eq_true rfl⟩) hK (hP.sub [0, 1, 2, 3, 4, 5, 6] rfl) (ci := 7) rfl rfl rfl hl.1 rfl (Nat.le_of_ble_eq_true rfl) dX7_faultsOf_2 ⟨Nat.zero_le _, Nat.zero_le _⟩ ?_
  refine lv_if_ne (tgt := 10) hx hb dX7_faultsOf_5 (by decide) (fun c_1 => ?_) (fun c_1 => ?_)
  · skip
    have c_1 := zb_ne0 c_1
    refine w_join (α := Int32) (fun a9 => a9 = (if hasB ro.2.1 (jPA t (nI tt) 0) ro.1 = true then 0 else 1)) (fun a9 => [(0, .ref (a 36)), (1, .int (nI tt))]) (fun a9 => [.int a9]) 31 4 (fun hJ_31 => ?_) ?_
    · skip
      refine lv_aload_n hx hb dX7_faultsOf_10 rfl (lv_at hl 0 rfl) ?_
      refine va_get (D := D) (ci := 7) (v := .ref (a 33)) (C := RX7) (T := TX7) (N := 6) hx hb hts hin7 hown hK.1 hP 0 rfl rfl 1 (by decide) (hts _ fl_X7_38) (fun _ h9 => h9) rfl dX7_faultsOf_11 ?_
      refine lv_aload_n hx hb dX7_faultsOf_14 rfl (lv_at hl 0 rfl) ?_
      refine lv_iload_n hx hb dX7_faultsOf_15 rfl (lv_at hl 1 rfl) ?_
      refine lv_iconst (v := 0) hx hb dX7_faultsOf_16 (by decide) ?_
      refine ro_V (As := [.int (nI tt), .int 0]) (rest := [.ref (a 33)]) ⟨hx, hb, hml, hown, hts⟩ (c_X7_placeAt l D cI cZ a t ht6 (nI tt) 0) (cw_X7_63 hts rfl rfl ⟨Nat.le_of_ble_eq_true rfl, Nat.le_of_ble_eq_true rfl⟩) hK (hP.sub [0, 1, 2, 3, 4, 5, 6] rfl) (ci := 7) rfl rfl rfl hl.1 rfl (Nat.le_of_ble_eq_true rfl) dX7_faultsOf_17 ⟨Nat.zero_le _, Nat.zero_le _⟩ ?_
      refine ro_V (As := [.int (jPA t (nI tt) 0)]) (rest := []) ⟨hx, hb, hml, hown, hts⟩ (c_X4_passes l D cI cZ a ro hr10 (jPA t (nI tt) 0)) (cw_X7_82 hts rfl rfl ⟨Nat.le_of_ble_eq_true rfl, Nat.le_of_ble_eq_true rfl⟩) hK (hP.sub [7, 8, 9] rfl) (ci := 4) rfl rfl rfl hl.1 rfl (Nat.le_of_ble_eq_true rfl) dX7_faultsOf_20 ⟨Nat.zero_le _, Nat.zero_le _⟩ ?_
      refine lv_if_eq (tgt := 30) hx hb dX7_faultsOf_23 (by decide) (fun c_2 => ?_) (fun c_2 => ?_)
      · skip
        have c_2 := zb_eq0 c_2
        refine lv_iconst (v := 1) hx hb dX7_faultsOf_30 (by decide) ?_
        exact hJ_31 1 ls (show 1 = (if hasB ro.2.1 (jPA t (nI tt) 0) ro.1 = true then 0 else 1) from by first | exact (if_pos c_2).symm | exact (if_neg c_2).symm | exact (if_pos (Int32.not_le.mp c_2)).symm | exact (if_neg (Int32.not_lt.mpr c_2)).symm) (show lv_has ls 4 [(0, .ref (a 36)), (1, .int (nI tt))] from lv_sub hl [0, 1] rfl)
      · skip
        have c_2 := zb_ne0 c_2
        refine lv_iconst (v := 0) hx hb dX7_faultsOf_26 (by decide) ?_
        refine lv_goto (tgt := 31) hx hb dX7_faultsOf_27 (by decide) ?_
        exact hJ_31 0 ls (show 0 = (if hasB ro.2.1 (jPA t (nI tt) 0) ro.1 = true then 0 else 1) from by first | exact (if_pos c_2).symm | exact (if_neg c_2).symm | exact (if_pos (Int32.not_le.mp c_2)).symm | exact (if_neg (Int32.not_lt.mpr c_2)).symm) (show lv_has ls 4 [(0, .ref (a 36)), (1, .int (nI tt))] from lv_sub hl [0, 1] rfl)
    · skip
      intro a9 ls hI hl
      obtain ⟨y, rfl⟩ : ∃ z, z = a9 := ⟨a9, rfl⟩
      have hI : y = (if hasB ro.2.1 (jPA t (nI tt) 0) ro.1 = true then 0 else 1) := hI
      subst hI
      have hl : lv_has ls 4 [(0, .ref (a 36)), (1, .int (nI tt))] := hl
      refine lv_istore_n (lv' := [(2, .int (if hasB ro.2.1 (jPA t (nI tt) 0) ro.1 = true then 0 else 1)), (0, .ref (a 36)), (1, .int (nI tt))]) hx hb dX7_faultsOf_31 rfl hl (by decide) rfl (fun ls hl => ?_)
      refine lv_iload_n hx hb dX7_faultsOf_32 rfl (lv_at hl 0 rfl) ?_
      refine w_join (α := Int32) (fun a9 => a9 = (if jCb t zf ro tt = true then 2 else 0)) (fun a9 => [(0, .ref (a 36)), (1, .int (nI tt)), (2, .int (if hasB ro.2.1 (jPA t (nI tt) 0) ro.1 = true then 0 else 1))]) (fun a9 => [.int a9, .int (if hasB ro.2.1 (jPA t (nI tt) 0) ro.1 = true then 0 else 1)]) 46 4 (fun hJ_46 => ?_) ?_
      · skip
        refine lv_aload_n hx hb dX7_faultsOf_33 rfl (lv_at hl 1 rfl) ?_
        refine lv_iload_n hx hb dX7_faultsOf_34 rfl (lv_at hl 2 rfl) ?_
        refine ro_V (As := [.int (nI tt)]) (rest := [.int (if hasB ro.2.1 (jPA t (nI tt) 0) ro.1 = true then 0 else 1)]) ⟨hx, hb, hml, hown, hts⟩ (c_X7_comesBackToRoute l D cI cZ a t ht6 zf hzf ro hr10 tt htt ) (cw_X7_87 hts rfl rfl ⟨Nat.le_of_ble_eq_true rfl, Nat.le_of_ble_eq_true rfl⟩) hK (hP.sub [0, 1, 2, 3, 4, 5, 6, 7, 8, 9] rfl) (ci := 7) rfl rfl rfl hl.1 rfl (Nat.le_of_ble_eq_true rfl) dX7_faultsOf_35 ⟨Nat.zero_le _, Nat.zero_le _⟩ ?_
        refine lv_if_eq (tgt := 45) hx hb dX7_faultsOf_38 (by decide) (fun c_3 => ?_) (fun c_3 => ?_)
        · skip
          have c_3 := zb_eq0 c_3
          refine lv_iconst (v := 0) hx hb dX7_faultsOf_45 (by decide) ?_
          exact hJ_46 0 ls (show 0 = (if jCb t zf ro tt = true then 2 else 0) from by first | exact (if_pos c_3).symm | exact (if_neg c_3).symm | exact (if_pos (Int32.not_le.mp c_3)).symm | exact (if_neg (Int32.not_lt.mpr c_3)).symm) (show lv_has ls 4 [(0, .ref (a 36)), (1, .int (nI tt)), (2, .int (if hasB ro.2.1 (jPA t (nI tt) 0) ro.1 = true then 0 else 1))] from lv_sub hl [1, 2, 0] rfl)
        · skip
          have c_3 := zb_ne0 c_3
          refine lv_iconst (v := 2) hx hb dX7_faultsOf_41 (by decide) ?_
          refine lv_goto (tgt := 46) hx hb dX7_faultsOf_42 (by decide) ?_
          exact hJ_46 2 ls (show 2 = (if jCb t zf ro tt = true then 2 else 0) from by first | exact (if_pos c_3).symm | exact (if_neg c_3).symm | exact (if_pos (Int32.not_le.mp c_3)).symm | exact (if_neg (Int32.not_lt.mpr c_3)).symm) (show lv_has ls 4 [(0, .ref (a 36)), (1, .int (nI tt)), (2, .int (if hasB ro.2.1 (jPA t (nI tt) 0) ro.1 = true then 0 else 1))] from lv_sub hl [1, 2, 0] rfl)
      · skip
        intro a9 ls hI hl
        obtain ⟨y, rfl⟩ : ∃ z, z = a9 := ⟨a9, rfl⟩
        have hI : y = (if jCb t zf ro tt = true then 2 else 0) := hI
        subst hI
        have hl : lv_has ls 4 [(0, .ref (a 36)), (1, .int (nI tt)), (2, .int (if hasB ro.2.1 (jPA t (nI tt) 0) ro.1 = true then 0 else 1))] := hl
        refine lv_ior hx hb dX7_faultsOf_46 ?_
        refine lv_istore_n (lv' := [(2, .int ((if hasB ro.2.1 (jPA t (nI tt) 0) ro.1 = true then 0 else 1) ||| (if jCb t zf ro tt = true then 2 else 0))), (0, .ref (a 36)), (1, .int (nI tt))]) hx hb dX7_faultsOf_47 rfl hl (by decide) rfl (fun ls hl => ?_)
        refine lv_iload_n hx hb dX7_faultsOf_48 rfl (lv_at hl 0 rfl) ?_
        refine w_join (α := Int32) (fun a9 => a9 = (if t.2.2.2.2 < jWl N pb t tt (zf tt) then 4 else 0)) (fun a9 => [(0, .ref (a 36)), (1, .int (nI tt)), (2, .int ((if hasB ro.2.1 (jPA t (nI tt) 0) ro.1 = true then 0 else 1) ||| (if jCb t zf ro tt = true then 2 else 0)))]) (fun a9 => [.int a9, .int ((if hasB ro.2.1 (jPA t (nI tt) 0) ro.1 = true then 0 else 1) ||| (if jCb t zf ro tt = true then 2 else 0))]) 66 4 (fun hJ_66 => ?_) ?_
        · skip
          refine lv_aload_n hx hb dX7_faultsOf_49 rfl (lv_at hl 1 rfl) ?_
          refine lv_iload_n hx hb dX7_faultsOf_50 rfl (lv_at hl 2 rfl) ?_
          refine ro_V (As := [.int (nI tt)]) (rest := [.int ((if hasB ro.2.1 (jPA t (nI tt) 0) ro.1 = true then 0 else 1) ||| (if jCb t zf ro tt = true then 2 else 0))]) ⟨hx, hb, hml, hown, hts⟩ (c_X7_wholeLength l D cI cZ a t ht6 zf hzf N pb hN16 tt htt ) (cw_X7_90 hts rfl rfl ⟨Nat.le_of_ble_eq_true rfl, Nat.le_of_ble_eq_true rfl⟩) hK (hP.sub [0, 1, 2, 3, 4, 5, 6, 10, 11, 12, 13, 14, 15, 16, 17, 18] rfl) (ci := 7) rfl rfl rfl hl.1 rfl (Nat.le_of_ble_eq_true rfl) dX7_faultsOf_51 ⟨Nat.zero_le _, Nat.zero_le _⟩ ?_
          refine lv_aload_n hx hb dX7_faultsOf_54 rfl (lv_at hl 1 rfl) ?_
          refine va_get (D := D) (ci := 7) (v := .int t.2.2.2.2) (C := RX7) (T := TX7) (N := 6) hx hb hts hin7 hown hK.1 hP 0 rfl rfl 5 (by decide) (hts _ fl_X7_30) (fun _ h9 => h9) rfl dX7_faultsOf_55 ?_
          refine lv_icmp_le (tgt := 65) hx hb dX7_faultsOf_58 (by decide) (fun c_4 => ?_) (fun c_4 => ?_)
          · skip
            refine lv_iconst (v := 0) hx hb dX7_faultsOf_65 (by decide) ?_
            exact hJ_66 0 ls (show 0 = (if t.2.2.2.2 < jWl N pb t tt (zf tt) then 4 else 0) from by first | exact (if_pos c_4).symm | exact (if_neg c_4).symm | exact (if_pos (Int32.not_le.mp c_4)).symm | exact (if_neg (Int32.not_lt.mpr c_4)).symm) (show lv_has ls 4 [(0, .ref (a 36)), (1, .int (nI tt)), (2, .int ((if hasB ro.2.1 (jPA t (nI tt) 0) ro.1 = true then 0 else 1) ||| (if jCb t zf ro tt = true then 2 else 0)))] from lv_sub hl [1, 2, 0] rfl)
          · skip
            refine lv_iconst (v := 4) hx hb dX7_faultsOf_61 (by decide) ?_
            refine lv_goto (tgt := 66) hx hb dX7_faultsOf_62 (by decide) ?_
            exact hJ_66 4 ls (show 4 = (if t.2.2.2.2 < jWl N pb t tt (zf tt) then 4 else 0) from by first | exact (if_pos c_4).symm | exact (if_neg c_4).symm | exact (if_pos (Int32.not_le.mp c_4)).symm | exact (if_neg (Int32.not_lt.mpr c_4)).symm) (show lv_has ls 4 [(0, .ref (a 36)), (1, .int (nI tt)), (2, .int ((if hasB ro.2.1 (jPA t (nI tt) 0) ro.1 = true then 0 else 1) ||| (if jCb t zf ro tt = true then 2 else 0)))] from lv_sub hl [1, 2, 0] rfl)
        · skip
          intro a9 ls hI hl
          obtain ⟨y, rfl⟩ : ∃ z, z = a9 := ⟨a9, rfl⟩
          have hI : y = (if t.2.2.2.2 < jWl N pb t tt (zf tt) then 4 else 0) := hI
          subst hI
          have hl : lv_has ls 4 [(0, .ref (a 36)), (1, .int (nI tt)), (2, .int ((if hasB ro.2.1 (jPA t (nI tt) 0) ro.1 = true then 0 else 1) ||| (if jCb t zf ro tt = true then 2 else 0)))] := hl
          refine lv_ior hx hb dX7_faultsOf_66 ?_
          refine lv_istore_n (lv' := [(2, .int (((if hasB ro.2.1 (jPA t (nI tt) 0) ro.1 = true then 0 else 1) ||| (if jCb t zf ro tt = true then 2 else 0)) ||| (if t.2.2.2.2 < jWl N pb t tt (zf tt) then 4 else 0))), (0, .ref (a 36)), (1, .int (nI tt))]) hx hb dX7_faultsOf_67 rfl hl (by decide) rfl (fun ls hl => ?_)
          have hl : lv_has ls 4 [(2, .int (jF4 N pb t zf ro tt 0)), (0, .ref (a 36)), (1, .int (nI tt))] := hl
          refine lv_iconst (v := 0) hx hb dX7_faultsOf_68 (by decide) ?_
          refine lv_istore_n (lv' := [(3, .int 0), (2, .int (jF4 N pb t zf ro tt 0)), (0, .ref (a 36)), (1, .int (nI tt))]) hx hb dX7_faultsOf_69 rfl hl (by decide) rfl (fun ls hl => ?_)
          refine w_loop (α := Nat) (fun a9 => a9 ≤ t.1) (fun a9 => t.1 - a9) (fun a9 => [(0, .ref (a 36)), (1, .int (nI tt)), (2, .int (jF4 N pb t zf ro tt a9)), (3, .int (nI a9))]) 70 4 ?_ 0 (Nat.zero_le _) (show lv_has ls 4 [(0, .ref (a 36)), (1, .int (nI tt)), (2, .int (jF4 N pb t zf ro tt 0)), (3, .int (nI 0))] from lv_sub hl [2, 3, 1, 0] rfl)
          intro a9 ls hI hl ih_70
          obtain ⟨u, rfl⟩ : ∃ z, z = a9 := ⟨a9, rfl⟩
          have hI : u ≤ t.1 := hI
          have hl : lv_has ls 4 [(0, .ref (a 36)), (1, .int (nI tt)), (2, .int (jF4 N pb t zf ro tt u)), (3, .int (nI u))] := hl
          refine lv_iload_n hx hb dX7_faultsOf_70 rfl (lv_at hl 3 rfl) ?_
          refine lv_aload_n hx hb dX7_faultsOf_71 rfl (lv_at hl 0 rfl) ?_
          refine ro_V (As := []) (rest := [.int (nI u)]) ⟨hx, hb, hml, hown, hts⟩ (c_X7_trailCount l D cI cZ a t ht6) (cw_X7_50 hts rfl rfl ⟨Nat.le_of_ble_eq_true rfl, Nat.le_of_ble_eq_true rfl⟩) hK (hP.sub [0, 1, 2, 3, 4, 5, 6] rfl) (ci := 7) rfl rfl rfl hl.1 rfl (Nat.le_of_ble_eq_true rfl) dX7_faultsOf_72 ⟨Nat.zero_le _, Nat.zero_le _⟩ ?_
          refine lv_icmp_ge (tgt := 115) hx hb dX7_faultsOf_75 (by decide) (fun c_5 => ?_) (fun c_5 => ?_)
          · skip
            have hge : t.1 ≤ u := zge (by have := hI; omega) (by omega) c_5
            refine lv_iload_n hx hb dX7_faultsOf_115 rfl (lv_at hl 2 rfl) ?_
            exact ro_iret hx hb hr hlocks (by unfold jFt; rw [if_pos c_1, show t.1 = u by omega]) dX7_faultsOf_116
          · skip
            have hlt : u < t.1 := zlt (by have := hI; omega) (by omega) c_5
            refine lv_iload_n hx hb dX7_faultsOf_78 rfl (lv_at hl 2 rfl) ?_
            refine lv_iload_n hx hb dX7_faultsOf_79 rfl (lv_at hl 3 rfl) ?_
            refine lv_iload_n hx hb dX7_faultsOf_80 rfl (lv_at hl 1 rfl) ?_
            refine lv_icmp_eq (tgt := 106) hx hb dX7_faultsOf_81 (by decide) (fun c_6 => ?_) (fun c_6 => ?_)
            · skip
              refine lv_iconst (v := 0) hx hb dX7_faultsOf_106 (by decide) ?_
              refine lv_ior hx hb dX7_faultsOf_107 ?_
              refine lv_istore_n (lv' := [(2, .int ((jF4 N pb t zf ro tt u) ||| 0)), (0, .ref (a 36)), (1, .int (nI tt)), (3, .int (nI u))]) hx hb dX7_faultsOf_108 rfl hl (by decide) rfl (fun ls hl => ?_)
              have hl : lv_has ls 4 [(2, .int (jF4 N pb t zf ro tt (u + 1))), (0, .ref (a 36)), (1, .int (nI tt)), (3, .int (nI u))] := by rw [show jF4 N pb t zf ro tt (u + 1) = ((jF4 N pb t zf ro tt u) ||| 0) from by rw [jF4]; rw [if_neg (fun z9 => z9.1 c_6)]]; exact hl
              refine lv_iinc (v := (nI (u + 1))) (lv' := [(3, .int (nI (u + 1))), (2, .int (jF4 N pb t zf ro tt (u + 1))), (0, .ref (a 36)), (1, .int (nI tt))]) hx hb dX7_faultsOf_109 hl (k := 3) rfl (nI_add u 1) (by decide) rfl (fun ls hl => ?_)
              refine lv_goto (tgt := 70) hx hb dX7_faultsOf_112 (by decide) ?_
              exact ih_70 (u + 1) ls (show (u + 1) ≤ t.1 from hlt) (show t.1 - (u + 1) < t.1 - u from by omega) (show lv_has ls 4 [(0, .ref (a 36)), (1, .int (nI tt)), (2, .int (jF4 N pb t zf ro tt (u + 1))), (3, .int (nI (u + 1)))] from lv_sub hl [2, 3, 1, 0] rfl)
            · skip
              refine lv_aload_n hx hb dX7_faultsOf_84 rfl (lv_at hl 0 rfl) ?_
              refine lv_iload_n hx hb dX7_faultsOf_85 rfl (lv_at hl 3 rfl) ?_
              refine ro_V (As := [.int (nI u)]) (rest := [.int (jF4 N pb t zf ro tt u)]) ⟨hx, hb, hml, hown, hts⟩ (c_X7_isFalse l D cI cZ a t ht6 (nI u)) (cw_X7_78 hts rfl rfl ⟨Nat.le_of_ble_eq_true rfl, Nat.le_of_ble_eq_true rfl⟩) hK (hP.sub [0, 1, 2, 3, 4, 5, 6] rfl) (ci := 7) rfl rfl rfl hl.1 rfl (Nat.le_of_ble_eq_true rfl) dX7_faultsOf_86 ⟨Nat.zero_le _, Nat.zero_le _⟩ ?_
              refine lv_if_eq (tgt := 106) hx hb dX7_faultsOf_89 (by decide) (fun c_7 => ?_) (fun c_7 => ?_)
              · skip
                have c_7 := zb_eq0 c_7
                refine lv_iconst (v := 0) hx hb dX7_faultsOf_106 (by decide) ?_
                refine lv_ior hx hb dX7_faultsOf_107 ?_
                refine lv_istore_n (lv' := [(2, .int ((jF4 N pb t zf ro tt u) ||| 0)), (0, .ref (a 36)), (1, .int (nI tt)), (3, .int (nI u))]) hx hb dX7_faultsOf_108 rfl hl (by decide) rfl (fun ls hl => ?_)
                have hl : lv_has ls 4 [(2, .int (jF4 N pb t zf ro tt (u + 1))), (0, .ref (a 36)), (1, .int (nI tt)), (3, .int (nI u))] := by rw [show jF4 N pb t zf ro tt (u + 1) = ((jF4 N pb t zf ro tt u) ||| 0) from by rw [jF4]; rw [if_neg (fun z9 => c_7 z9.2.1)]]; exact hl
                refine lv_iinc (v := (nI (u + 1))) (lv' := [(3, .int (nI (u + 1))), (2, .int (jF4 N pb t zf ro tt (u + 1))), (0, .ref (a 36)), (1, .int (nI tt))]) hx hb dX7_faultsOf_109 hl (k := 3) rfl (nI_add u 1) (by decide) rfl (fun ls hl => ?_)
                refine lv_goto (tgt := 70) hx hb dX7_faultsOf_112 (by decide) ?_
                exact ih_70 (u + 1) ls (show (u + 1) ≤ t.1 from hlt) (show t.1 - (u + 1) < t.1 - u from by omega) (show lv_has ls 4 [(0, .ref (a 36)), (1, .int (nI tt)), (2, .int (jF4 N pb t zf ro tt (u + 1))), (3, .int (nI (u + 1)))] from lv_sub hl [2, 3, 1, 0] rfl)
              · skip
                have c_7 := zb_ne0 c_7
                refine lv_aload_n hx hb dX7_faultsOf_92 rfl (lv_at hl 0 rfl) ?_
                refine lv_iload_n hx hb dX7_faultsOf_93 rfl (lv_at hl 1 rfl) ?_
                refine lv_iload_n hx hb dX7_faultsOf_94 rfl (lv_at hl 3 rfl) ?_
                refine ro_V (As := [.int (nI tt), .int (nI u)]) (rest := [.int (jF4 N pb t zf ro tt u)]) ⟨hx, hb, hml, hown, hts⟩ (c_X7_crosses l D cI cZ a t ht6 zf hzf  tt htt u hlt ) (cw_X7_93 hts rfl rfl ⟨Nat.le_of_ble_eq_true rfl, Nat.le_of_ble_eq_true rfl⟩) hK (hP.sub [0, 1, 2, 3, 4, 5, 6] rfl) (ci := 7) rfl rfl rfl hl.1 rfl (Nat.le_of_ble_eq_true rfl) dX7_faultsOf_95 ⟨Nat.zero_le _, Nat.zero_le _⟩ ?_
                refine lv_if_eq (tgt := 106) hx hb dX7_faultsOf_98 (by decide) (fun c_8 => ?_) (fun c_8 => ?_)
                · skip
                  have c_8 := zb_eq0 c_8
                  refine lv_iconst (v := 0) hx hb dX7_faultsOf_106 (by decide) ?_
                  refine lv_ior hx hb dX7_faultsOf_107 ?_
                  refine lv_istore_n (lv' := [(2, .int ((jF4 N pb t zf ro tt u) ||| 0)), (0, .ref (a 36)), (1, .int (nI tt)), (3, .int (nI u))]) hx hb dX7_faultsOf_108 rfl hl (by decide) rfl (fun ls hl => ?_)
                  have hl : lv_has ls 4 [(2, .int (jF4 N pb t zf ro tt (u + 1))), (0, .ref (a 36)), (1, .int (nI tt)), (3, .int (nI u))] := by rw [show jF4 N pb t zf ro tt (u + 1) = ((jF4 N pb t zf ro tt u) ||| 0) from by rw [jF4]; rw [if_neg (fun z9 => c_8 z9.2.2)]]; exact hl
                  refine lv_iinc (v := (nI (u + 1))) (lv' := [(3, .int (nI (u + 1))), (2, .int (jF4 N pb t zf ro tt (u + 1))), (0, .ref (a 36)), (1, .int (nI tt))]) hx hb dX7_faultsOf_109 hl (k := 3) rfl (nI_add u 1) (by decide) rfl (fun ls hl => ?_)
                  refine lv_goto (tgt := 70) hx hb dX7_faultsOf_112 (by decide) ?_
                  exact ih_70 (u + 1) ls (show (u + 1) ≤ t.1 from hlt) (show t.1 - (u + 1) < t.1 - u from by omega) (show lv_has ls 4 [(0, .ref (a 36)), (1, .int (nI tt)), (2, .int (jF4 N pb t zf ro tt (u + 1))), (3, .int (nI (u + 1)))] from lv_sub hl [2, 3, 1, 0] rfl)
                · skip
                  have c_8 := zb_ne0 c_8
                  refine lv_bipush (v := 8) hx hb dX7_faultsOf_101 (by decide) ?_
                  refine lv_goto (tgt := 107) hx hb dX7_faultsOf_103 (by decide) ?_
                  refine lv_ior hx hb dX7_faultsOf_107 ?_
                  refine lv_istore_n (lv' := [(2, .int ((jF4 N pb t zf ro tt u) ||| 8)), (0, .ref (a 36)), (1, .int (nI tt)), (3, .int (nI u))]) hx hb dX7_faultsOf_108 rfl hl (by decide) rfl (fun ls hl => ?_)
                  have hl : lv_has ls 4 [(2, .int (jF4 N pb t zf ro tt (u + 1))), (0, .ref (a 36)), (1, .int (nI tt)), (3, .int (nI u))] := by rw [show jF4 N pb t zf ro tt (u + 1) = ((jF4 N pb t zf ro tt u) ||| 8) from by rw [jF4]; rw [if_pos ⟨c_6, c_7, c_8⟩]]; exact hl
                  refine lv_iinc (v := (nI (u + 1))) (lv' := [(3, .int (nI (u + 1))), (2, .int (jF4 N pb t zf ro tt (u + 1))), (0, .ref (a 36)), (1, .int (nI tt))]) hx hb dX7_faultsOf_109 hl (k := 3) rfl (nI_add u 1) (by decide) rfl (fun ls hl => ?_)
                  refine lv_goto (tgt := 70) hx hb dX7_faultsOf_112 (by decide) ?_
                  exact ih_70 (u + 1) ls (show (u + 1) ≤ t.1 from hlt) (show t.1 - (u + 1) < t.1 - u from by omega) (show lv_has ls 4 [(0, .ref (a 36)), (1, .int (nI tt)), (2, .int (jF4 N pb t zf ro tt (u + 1))), (3, .int (nI (u + 1)))] from lv_sub hl [2, 3, 1, 0] rfl)
  · skip
    have c_1 := zb_eq0 c_1
    refine lv_iconst (v := 0) hx hb dX7_faultsOf_8 (by decide) ?_
    exact ro_iret hx hb hr hlocks ((if_neg c_1).symm) dX7_faultsOf_9
