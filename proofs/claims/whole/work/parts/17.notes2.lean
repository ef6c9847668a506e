def jWz (S : TS) (sb : Nat → Int32) (q : TQ) (N : TN) (pb : Nat → Int32) (o : TO) (wy : Nat → Int32) : Nat → Int32 := if o.1 = 0 then wy else jWy S sb q N pb o wy
set_option maxHeartbeats 4000000 in
set_option maxRecDepth 100000 in
theorem c_X3_waysFrom (l : Launch) (D : va_G) (cI cZ : ClassId) (a : Nat → Nat) (o : TO) (wy : Nat → Int32) (ho8 : o.1 ≤ 8) (S : TS) (sb : Nat → Int32) (q : TQ) (hS24 : S_n S ≤ 24) (N : TN) (pb : Nat → Int32) (hN16 : N_n N ≤ 16) (x : Int32) : MI l D cI cZ yX3_waysFrom wyX3_waysFrom ({ frames := 5, cells := 0, slots := 0, locals := 117 } : Room) [.ref (a 28), .int x] (wNt a cI o wy ++ wSg a cI S sb q ++ wNet a cI N pb) (fun r u => r = jWf S sb q N pb o wy x ∧ u = jWz S sb q N pb o wy) (fun u => wNt a cI o u ++ wSg a cI S sb q ++ wNet a cI N pb) := by
  refine Met.ofW (cc := cX3_waysFrom) (maxL := 4) (ret := (some .int)) (by decide) rfl ?_
  intro p e s m args below meth c s₁ B hml hv
  obtain ⟨rfl, hK, hP, hD0⟩ := hv
  have hx := B.exec
  have hb := B.bytes
  have hr := B.returns
  have hts0 := atoms_spec (ws := wyX3_waysFrom) B.pre
  have hts : ∀ w ∈ big, w.before _ s = true := fun w h => hts0 w (List.mem_cons_of_mem _ h)
  have hown : s.vm.findClass RX3 = some m.cls := findClass_of_methodNamed B.named
  have hlocks := B.notSynchronized
  have hD := D_inW hD0
  have hS : va_S (inW (wNt a cI o wy ++ wSg a cI S sb q ++ wNet a cI N pb)) s.heap s.heap [] := va_S.rf
  have hl := lv_entry ([.ref (a 28), .int x]) (n := 4) (Nat.le_of_ble_eq_true rfl)
  rw [lg_entry_eq]
  generalize (lg_sl ([.ref (a 28), .int x]) ++ List.replicate (4 - (lg_sl ([.ref (a 28), .int x])).length) Slot.unset).toArray = ls at hl ⊢
  have hl : lv_has ls 4 [(0, .ref (a 28)), (1, .int x)] := hl
  refine lv_aload_n hx hb dX3_waysFrom_0 rfl (lv_at hl 0 rfl) ?_
  refine ro_V (As := []) (rest := []) ⟨hx, hb, hml, hown, hts⟩ (c_X3_noteCount l D cI cZ a o wy ho8  ) (cw_X3_48 hts rfl rfl ⟨Nat.le_of_ble_eq_true rfl, Nat.le_of_ble_eq_true rfl⟩) hK (hP.sub [0, 1, 2, 3, 4] rfl) (ci := 3) rfl rfl rfl hl.1 rfl (Nat.le_of_ble_eq_true rfl) dX3_waysFrom_1 ⟨Nat.zero_le _, Nat.zero_le _⟩ ?_
  refine lv_if_ne (tgt := 9) hx hb dX3_waysFrom_4 (by decide) (fun c_1 => ?_) (fun c_1 => ?_)
  · skip
    have hz0 : ¬ o.1 = 0 := fun q9 => c_1 (by rw [q9]; rfl)
    refine lv_aload_n hx hb dX3_waysFrom_9 rfl (lv_at hl 0 rfl) ?_
    refine ro_V (As := []) (rest := []) ⟨hx, hb, hml, hown, hts⟩ (c_X3_noteCount l D cI cZ a o wy ho8  ) (cw_X3_48 hts rfl rfl ⟨Nat.le_of_ble_eq_true rfl, Nat.le_of_ble_eq_true rfl⟩) hK (hP.sub [0, 1, 2, 3, 4] rfl) (ci := 3) rfl rfl rfl hl.1 rfl (Nat.le_of_ble_eq_true rfl) dX3_waysFrom_10 ⟨Nat.zero_le _, Nat.zero_le _⟩ ?_
    refine lv_iconst (v := 1) hx hb dX3_waysFrom_13 (by decide) ?_
    refine lv_isub hx hb dX3_waysFrom_14 ?_
    rw [show nI o.1 - 1 = nI (o.1 - 1) from pk_sub (a := o.1) (b := 1) (by omega)]
    refine lv_istore_n (lv' := [(2, .int (nI (o.1 - 1))), (0, .ref (a 28)), (1, .int x)]) hx hb dX3_waysFrom_15 rfl hl (by decide) rfl (fun ls hl => ?_)
    refine w_loopH (α := Nat × Nat) (fun a9 => a9.2 + a9.1 + 1 = o.1) (fun a9 => a9.2) (fun a9 => wNt a cI o (jWd S sb q N pb o wy a9.1) ++ wSg a cI S sb q ++ wNet a cI N pb) (fun a9 => [(0, .ref (a 28)), (1, .int x), (2, .int (nI a9.2))]) 16 4 ?_ (0, (o.1 - 1)) ((by omega)) (show lv_has ls 4 [(0, .ref (a 28)), (1, .int x), (2, .int (nI (o.1 - 1)))] from lv_sub hl [1, 2, 0] rfl) hP hD hS
    intro a9 ls H locs hI hl hP hD hS ih_16
    obtain ⟨d, j⟩ := a9
    have hI : j + d + 1 = o.1 := hI
    have hl : lv_has ls 4 [(0, .ref (a 28)), (1, .int x), (2, .int (nI j))] := hl
    have hP : va_P D vwCl (wNt a cI o (jWd S sb q N pb o wy d) ++ wSg a cI S sb q ++ wNet a cI N pb) H := hP
    have hD : va_D _ (wNt a cI o (jWd S sb q N pb o wy d) ++ wSg a cI S sb q ++ wNet a cI N pb) := hD
    refine lv_iload_n hx hb dX3_waysFrom_16 rfl (lv_at hl 2 rfl) ?_
    refine lv_iconst (v := 1) hx hb dX3_waysFrom_17 (by decide) ?_
    refine lv_icmp_lt (tgt := 77) hx hb dX3_waysFrom_18 (by decide) (fun c_2 => ?_) (fun c_2 => ?_)
    · skip
      have hj0 : j = 0 := by have h9 := c_2; rw [show (1 : Int32) = nI 1 from rfl, nI_ltI (by omega) (by omega)] at h9; omega
      refine lv_aload_n hx hb dX3_waysFrom_77 rfl (lv_at hl 0 rfl) ?_
      refine lv_iconst (v := 0) hx hb dX3_waysFrom_78 (by decide) ?_
      refine lv_iload_n hx hb dX3_waysFrom_79 rfl (lv_at hl 1 rfl) ?_
      refine lv_iconst (v := (-1)) hx hb dX3_waysFrom_80 (by decide) ?_
      refine ro_V (As := [.int 0, .int x, .int (-1)]) (rest := []) ⟨hx, hb, hml, hown, hts⟩ (c_X3_waysOn l D cI cZ a o (jWd S sb q N pb o wy d) ho8 S sb q hS24 N pb hN16 0 x (-1)) (cw_X3_57 hts rfl rfl ⟨Nat.le_of_ble_eq_true rfl, Nat.le_of_ble_eq_true rfl⟩) hK hP (ci := 3) rfl rfl rfl hl.1 rfl (Nat.le_of_ble_eq_true rfl) dX3_waysFrom_81 ⟨Nat.zero_le _, Nat.zero_le _⟩ ?_
      exact mu_iret (v := (jWo S sb q N pb o (jWd S sb q N pb o wy d) 0 x (-1))) hx hb hr hlocks ((jWy S sb q N pb o wy)) (by show _ = jWf S sb q N pb o wy x ∧ _ = _; unfold jWf jWz; rw [if_neg hz0, if_neg hz0]; unfold jWy; rw [show o.1 - 1 = d by omega]; exact ⟨rfl, rfl⟩) (by show va_P D vwCl (wNt a cI o (jWy S sb q N pb o wy) ++ wSg a cI S sb q ++ wNet a cI N pb) _; unfold jWy; rw [show o.1 - 1 = d by omega]; exact hP) hS dX3_waysFrom_84
    · skip
      obtain ⟨j2, hj2⟩ : ∃ j2, j = j2 + 1 := ⟨j - 1, by have h9 := c_2; rw [show (1 : Int32) = nI 1 from rfl, nI_ltI (by omega) (by omega)] at h9; omega⟩
      have hl : lv_has ls 4 [(0, .ref (a 28)), (1, .int x), (2, .int (nI (j2 + 1)))] := by rw [← hj2]; exact hl
      refine lv_iconst (v := 0) hx hb dX3_waysFrom_21 (by decide) ?_
      refine lv_istore_n (lv' := [(3, .int 0), (0, .ref (a 28)), (1, .int x), (2, .int (nI (j2 + 1)))]) hx hb dX3_waysFrom_22 rfl hl (by decide) rfl (fun ls hl => ?_)
      refine w_loopH (α := Nat) (fun a9 => a9 ≤ 2 * N_n N) (fun a9 => 2 * N_n N - a9) (fun a9 => wNt a cI o (jW1 S sb q N pb o (j2 + 1) (jWd S sb q N pb o wy d) a9) ++ wSg a cI S sb q ++ wNet a cI N pb) (fun a9 => [(0, .ref (a 28)), (1, .int x), (2, .int (nI (j2 + 1))), (3, .int (nI a9))]) 23 4 ?_ 0 (Nat.zero_le _) (show lv_has ls 4 [(0, .ref (a 28)), (1, .int x), (2, .int (nI (j2 + 1))), (3, .int (nI 0))] from lv_sub hl [1, 2, 3, 0] rfl) hP hD hS
      intro a9 ls H locs hI hl hP hD hS ih_23
      obtain ⟨i, rfl⟩ : ∃ z, z = a9 := ⟨a9, rfl⟩
      have hI : i ≤ 2 * N_n N := hI
      have hl : lv_has ls 4 [(0, .ref (a 28)), (1, .int x), (2, .int (nI (j2 + 1))), (3, .int (nI i))] := hl
      have hP : va_P D vwCl (wNt a cI o (jW1 S sb q N pb o (j2 + 1) (jWd S sb q N pb o wy d) i) ++ wSg a cI S sb q ++ wNet a cI N pb) H := hP
      have hD : va_D _ (wNt a cI o (jW1 S sb q N pb o (j2 + 1) (jWd S sb q N pb o wy d) i) ++ wSg a cI S sb q ++ wNet a cI N pb) := hD
      refine lv_iload_n hx hb dX3_waysFrom_23 rfl (lv_at hl 3 rfl) ?_
      refine lv_iconst (v := 2) hx hb dX3_waysFrom_24 (by decide) ?_
      refine lv_aload_n hx hb dX3_waysFrom_25 rfl (lv_at hl 0 rfl) ?_
      refine va_get (D := D) (ci := 3) (v := .ref (a 1)) (C := RX3) (T := TX3) (N := 4) hx hb hts hin3 hown hK.1 hP 0 rfl rfl 0 (by decide) (hts _ fl_X3_29) (fun _ h9 => h9) rfl dX3_waysFrom_26 ?_
      refine ro_V (As := []) (rest := [.int 2, .int (nI i)]) ⟨hx, hb, hml, hown, hts⟩ (c_X2_pathCount l D cI cZ a N pb hN16) (cw_X3_51 hts rfl rfl ⟨Nat.le_of_ble_eq_true rfl, Nat.le_of_ble_eq_true rfl⟩) hK (hP.sub [20, 21, 22, 23, 24, 25, 26, 27, 28] rfl) (ci := 2) rfl rfl rfl hl.1 rfl (Nat.le_of_ble_eq_true rfl) dX3_waysFrom_29 ⟨Nat.zero_le _, Nat.zero_le _⟩ ?_
      refine lv_imul hx hb dX3_waysFrom_32 ?_
      rw [show (2 : Int32) * nI (N_n N) = nI (2 * N_n N) from pk_mul 2 (N_n N)]
      refine lv_icmp_ge (tgt := 71) hx hb dX3_waysFrom_33 (by decide) (fun c_3 => ?_) (fun c_3 => ?_)
      · skip
        have hge : 2 * N_n N ≤ i := zge (by have := hI; have := hN16; omega) (by have := hN16; omega) c_3
        have hPd : jW1 S sb q N pb o (j2 + 1) (jWd S sb q N pb o wy d) i = jWd S sb q N pb o wy (d + 1) := by rw [jWd, show o.1 - 1 - d = j2 + 1 by omega, show 2 * N_n N = i by omega]
        rw [hPd] at hP hD
        refine lv_iinc (v := (nI j2)) (lv' := [(2, .int (nI j2)), (0, .ref (a 28)), (1, .int x), (3, .int (nI i))]) hx hb dX3_waysFrom_71 hl (k := 2) rfl (pk_m1 j2) (by decide) rfl (fun ls hl => ?_)
        refine lv_goto (tgt := 16) hx hb dX3_waysFrom_74 (by decide) ?_
        exact ih_16 ((d + 1), j2) ls H locs (show j2 + (d + 1) + 1 = o.1 from by omega) (show j2 < j from by omega) (show lv_has ls 4 [(0, .ref (a 28)), (1, .int x), (2, .int (nI j2))] from lv_sub hl [1, 2, 0] rfl) hP hD hS
      · skip
        have hlt : i < 2 * N_n N := zlt (by have := hI; have := hN16; omega) (by have := hN16; omega) c_3
        refine lv_aload_n hx hb dX3_waysFrom_36 rfl (lv_at hl 0 rfl) ?_
        refine va_get (D := D) (ci := 3) (v := .ref (a 31)) (C := RX3) (T := TX3) (N := 4) hx hb hts hin3 hown hK.1 hP 0 rfl rfl 3 (by decide) (hts _ fl_X3_26) (fun _ h9 => h9) rfl dX3_waysFrom_37 ?_
        refine lv_iload_n hx hb dX3_waysFrom_40 rfl (lv_at hl 2 rfl) ?_
        refine lv_bipush (v := 32) hx hb dX3_waysFrom_41 (by decide) ?_
        refine lv_imul hx hb dX3_waysFrom_43 ?_
        rw [show nI (j2 + 1) * 32 = nI ((j2 + 1) * 32) from pk_mul (j2 + 1) 32]
        refine lv_iload_n hx hb dX3_waysFrom_44 rfl (lv_at hl 3 rfl) ?_
        refine lv_iadd hx hb dX3_waysFrom_45 ?_
        rw [nI_add]
        refine lv_aload_n hx hb dX3_waysFrom_46 rfl (lv_at hl 0 rfl) ?_
        refine lv_iload_n hx hb dX3_waysFrom_47 rfl (lv_at hl 2 rfl) ?_
        refine lv_aload_n hx hb dX3_waysFrom_48 rfl (lv_at hl 0 rfl) ?_
        refine va_get (D := D) (ci := 3) (v := .ref (a 1)) (C := RX3) (T := TX3) (N := 4) hx hb hts hin3 hown hK.1 hP 0 rfl rfl 0 (by decide) (hts _ fl_X3_29) (fun _ h9 => h9) rfl dX3_waysFrom_49 ?_
        refine lv_iload_n hx hb dX3_waysFrom_52 rfl (lv_at hl 3 rfl) ?_
        refine ro_V (As := [.int (nI i)]) (rest := [.int (nI (j2 + 1)), .ref (a 28), .int (nI ((j2 + 1) * 32 + i)), .ref (a 31)]) ⟨hx, hb, hml, hown, hts⟩ (c_X2_endOf l D cI cZ a N pb hN16 (nI i)) (cw_X3_54 hts rfl rfl ⟨Nat.le_of_ble_eq_true rfl, Nat.le_of_ble_eq_true rfl⟩) hK (hP.sub [20, 21, 22, 23, 24, 25, 26, 27, 28] rfl) (ci := 2) rfl rfl rfl hl.1 rfl (Nat.le_of_ble_eq_true rfl) dX3_waysFrom_53 ⟨Nat.zero_le _, Nat.zero_le _⟩ ?_
        refine lv_iload_n hx hb dX3_waysFrom_56 rfl (lv_at hl 3 rfl) ?_
        refine lv_iconst (v := 1) hx hb dX3_waysFrom_57 (by decide) ?_
        refine lv_ishr hx hb dX3_waysFrom_58 ?_
        refine ro_V (As := [.int (nI (j2 + 1)), .int (jEnd N (nI i)), .int ((nI i) >>> (1 &&& 31))]) (rest := [.int (nI ((j2 + 1) * 32 + i)), .ref (a 31)]) ⟨hx, hb, hml, hown, hts⟩ (c_X3_waysOn l D cI cZ a o (jW1 S sb q N pb o (j2 + 1) (jWd S sb q N pb o wy d) i) ho8 S sb q hS24 N pb hN16 (nI (j2 + 1)) (jEnd N (nI i)) ((nI i) >>> (1 &&& 31))) (cw_X3_57 hts rfl rfl ⟨Nat.le_of_ble_eq_true rfl, Nat.le_of_ble_eq_true rfl⟩) hK hP (ci := 3) rfl rfl rfl hl.1 rfl (Nat.le_of_ble_eq_true rfl) dX3_waysFrom_59 ⟨Nat.zero_le _, Nat.zero_le _⟩ ?_
        refine mv_V2 (As := [.int (nI ((j2 + 1) * 32 + i)), .int (jWo S sb q N pb o (jW1 S sb q N pb o (j2 + 1) (jWd S sb q N pb o wy d) i) (nI (j2 + 1)) (jEnd N (nI i)) ((nI i) >>> (1 &&& 31)))]) (rest := []) ⟨hx, hb, hml, hown, hts⟩ (c_X5_put l D cI cZ (a 31) (a 32) 256 256 (jW1 S sb q N pb o (j2 + 1) (jWd S sb q N pb o wy d) i) (by decide) (by decide) (nI ((j2 + 1) * 32 + i)) (jWo S sb q N pb o (jW1 S sb q N pb o (j2 + 1) (jWd S sb q N pb o wy d) i) (nI (j2 + 1)) (jEnd N (nI i)) ((nI i) >>> (1 &&& 31)))) (cw_X3_61 hts rfl rfl ⟨Nat.le_of_ble_eq_true rfl, Nat.le_of_ble_eq_true rfl⟩) hK hP hD hS 29 rfl [3, 4] [0, 1, 2, 5, 6, 7, 8, 9, 10, 11, 12, 13, 14, 15, 16, 17, 18, 19, 20, 21, 22, 23, 24, 25, 26, 27, 28] (fun (_ : Unit) => wNt a cI o (rp 256 (jW1 S sb q N pb o (j2 + 1) (jWd S sb q N pb o wy d) i) (nI ((j2 + 1) * 32 + i)) (jWo S sb q N pb o (jW1 S sb q N pb o (j2 + 1) (jWd S sb q N pb o wy d) i) (nI (j2 + 1)) (jEnd N (nI i)) ((nI i) >>> (1 &&& 31)))) ++ wSg a cI S sb q ++ wNet a cI N pb) rfl (by decide) (fun u => rfl) [(a 31), (a 32)] rfl (fun u => rfl) ([((a 28), .inr (3, [.ref (a 1), .ref (a 10), .ref (a 29), .ref (a 31)])), ((a 29), .inr (5, [.ref (a 30), .int (nI (o.1))])), ((a 30), .inl (cI, (8, .inl (o.2)))), ((a 10), .inr (6, [.ref (a 1), .ref (a 11), .ref (a 13), .ref (a 15), .ref (a 17), .ref (a 19), .ref (a 21), .ref (a 23), .int q.1, .int q.2.1, .int q.2.2])), ((a 11), .inr (5, [.ref (a 12), .int (nI (S_n S))])), ((a 12), .inl (cI, (24, .inl (S_p S)))), ((a 13), .inr (5, [.ref (a 14), .int (nI (S_n S))])), ((a 14), .inl (cI, (24, .inl (S_k S)))), ((a 15), .inr (5, [.ref (a 16), .int (nI (S_n S))])), ((a 16), .inl (cI, (24, .inl (S_v S)))), ((a 17), .inr (5, [.ref (a 18), .int (nI (S_n S))])), ((a 18), .inl (cI, (24, .inl (S_f S)))), ((a 19), .inr (5, [.ref (a 20), .int (nI (S_n S))])), ((a 20), .inl (cI, (24, .inl (S_d S)))), ((a 21), .inr (5, [.ref (a 22), .int (nI (S_n S))])), ((a 22), .inl (cI, (24, .inl (S_u S)))), ((a 23), .inr (5, [.ref (a 24), .int (nI (S_n S))])), ((a 24), .inl (cI, (24, .inl sb))), ((a 1), .inr (2, [.ref (a 2), .ref (a 4), .ref (a 6), .ref (a 8)])), ((a 2), .inr (5, [.ref (a 3), .int (nI (N_n N))])), ((a 3), .inl (cI, (16, .inl (N_a N)))), ((a 4), .inr (5, [.ref (a 5), .int (nI (N_n N))])), ((a 5), .inl (cI, (16, .inl (N_b N)))), ((a 6), .inr (5, [.ref (a 7), .int (nI (N_n N))])), ((a 7), .inl (cI, (16, .inl (N_l N)))), ((a 8), .inr (5, [.ref (a 9), .int (nI 10)])), ((a 9), .inl (cI, (10, .inl pb)))] : va_W) rfl (fun u => rfl) [(a 28), (a 29), (a 30), (a 31), (a 32), (a 10), (a 11), (a 12), (a 13), (a 14), (a 15), (a 16), (a 17), (a 18), (a 19), (a 20), (a 21), (a 22), (a 23), (a 24), (a 1), (a 2), (a 3), (a 4), (a 5), (a 6), (a 7), (a 8), (a 9)] rfl (fun u => rfl) (by decide) (by decide) (by decide) (ci := 5) rfl rfl rfl hl.1 rfl (Nat.le_of_ble_eq_true rfl) dX3_waysFrom_62 ⟨Nat.zero_le _, Nat.zero_le _⟩ (fun u H locs hp hP hD hS => ?_)
        have hrp : rp 256 (jW1 S sb q N pb o (j2 + 1) (jWd S sb q N pb o wy d) i) (nI ((j2 + 1) * 32 + i)) (jWo S sb q N pb o (jW1 S sb q N pb o (j2 + 1) (jWd S sb q N pb o wy d) i) (nI (j2 + 1)) (jEnd N (nI i)) ((nI i) >>> (1 &&& 31))) = upd (jW1 S sb q N pb o (j2 + 1) (jWd S sb q N pb o wy d) i) ((j2 + 1) * 32 + i) (jWo S sb q N pb o (jW1 S sb q N pb o (j2 + 1) (jWd S sb q N pb o wy d) i) (nI (j2 + 1)) (jEnd N (nI i)) ((nI i) >>> (1 &&& 31))) := rp_in (show (j2 + 1) * 32 + i < 256 by omega) (by decide)
        rw [hrp] at hP hD
        clear hrp
        have hP : va_P D vwCl (wNt a cI o (upd (jW1 S sb q N pb o (j2 + 1) (jWd S sb q N pb o wy d) i) ((j2 + 1) * 32 + i) (jWo S sb q N pb o (jW1 S sb q N pb o (j2 + 1) (jWd S sb q N pb o wy d) i) (nI (j2 + 1)) (jEnd N (nI i)) ((nI i) >>> (1 &&& 31)))) ++ wSg a cI S sb q ++ wNet a cI N pb) H := hP
        have hD : va_D _ (wNt a cI o (upd (jW1 S sb q N pb o (j2 + 1) (jWd S sb q N pb o wy d) i) ((j2 + 1) * 32 + i) (jWo S sb q N pb o (jW1 S sb q N pb o (j2 + 1) (jWd S sb q N pb o wy d) i) (nI (j2 + 1)) (jEnd N (nI i)) ((nI i) >>> (1 &&& 31)))) ++ wSg a cI S sb q ++ wNet a cI N pb) := hD
        refine lv_iinc (v := (nI (i + 1))) (lv' := [(3, .int (nI (i + 1))), (0, .ref (a 28)), (1, .int x), (2, .int (nI (j2 + 1)))]) hx hb dX3_waysFrom_65 hl (k := 3) rfl (nI_add i 1) (by decide) rfl (fun ls hl => ?_)
        refine lv_goto (tgt := 23) hx hb dX3_waysFrom_68 (by decide) ?_
        exact ih_23 (i + 1) ls H locs (show (i + 1) ≤ 2 * N_n N from hlt) (show 2 * N_n N - (i + 1) < 2 * N_n N - i from by omega) (show lv_has ls 4 [(0, .ref (a 28)), (1, .int x), (2, .int (nI (j2 + 1))), (3, .int (nI (i + 1)))] from lv_sub hl [1, 2, 3, 0] rfl) hP hD hS
  · skip
    have hz0 : o.1 = 0 := by have h9 := c_1; rw [show (0 : Int32) = nI 0 from rfl, nI_eq (by omega) (by omega)] at h9; exact h9
    refine lv_iconst (v := 1) hx hb dX3_waysFrom_7 (by decide) ?_
    exact mu_iret (v := 1) hx hb hr hlocks ((wy)) (by show (1 : Int32) = jWf S sb q N pb o wy x ∧ wy = _; unfold jWf jWz; constructor <;> rw [if_pos hz0]) (hP) hS dX3_waysFrom_8
