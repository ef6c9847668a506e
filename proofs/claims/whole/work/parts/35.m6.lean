set_option maxHeartbeats 4000000 in
set_option maxRecDepth 100000 in
theorem c_X10_isOnRoute (l : Launch) (D : va_G) (cI cZ : ClassId) (am : Nat → Nat) (N : TN) (hN16 : N_n N ≤ 16) (S : TS) (hS24 : S_n S ≤ 24) (q : TQ) (o : TO) (ho8 : o.1 ≤ 8) (ro : TR) (hr10 : ro.1 ≤ 10) (t : TT) (ht6 : t.1 ≤ 6) (fo : TF) (hf5 : fo.1 ≤ 5) (k : TC) (hk8 : k.2.1 ≤ 8) (z : TZ) (x : Int32) : RO l D cI cZ yX10_isOnRoute wyX10_isOnRoute ({ frames := 0, cells := 0, slots := 0, locals := 0 } : Room) [.ref (am 0), .int x] (wM am cI cZ N S q o ro t fo k z) (zb (hasB ro.2.1 x ro.1 = true)) := by
  refine Met.ofW (cc := cX10_isOnRoute) (maxL := 4) (ret := (some .boolean)) (by decide) rfl ?_
  intro p e s m args below meth c s₁ B hml hv
  obtain ⟨rfl, hK, hP⟩ := hv
  have hx := B.exec
  have hb := B.bytes
  have hr := B.returns
  have hts0 := atoms_spec (ws := wyX10_isOnRoute) B.pre
  have hts : ∀ w ∈ big, w.before _ s = true := fun w h => hts0 w (List.mem_cons_of_mem _ h)
  have hown : s.vm.findClass RX10 = some m.cls := findClass_of_methodNamed B.named
  have hlocks := B.notSynchronized
  have hl := lv_entry ([.ref (am 0), .int x]) (n := 4) (Nat.le_of_ble_eq_true rfl)
  rw [lg_entry_eq]
  generalize (lg_sl ([.ref (am 0), .int x]) ++ List.replicate (4 - (lg_sl ([.ref (am 0), .int x])).length) Slot.unset).toArray = ls at hl ⊢
  have hl : lv_has ls 4 [(0, .ref (am 0)), (1, .int x)] := hl
  refine lv_iconst (v := 0) hx hb dX10_isOnRoute_0 (by decide) ?_
  refine lv_istore_n (lv' := [(2, .int 0), (0, .ref (am 0)), (1, .int x)]) hx hb dX10_isOnRoute_1 rfl hl (by decide) rfl (fun ls hl => ?_)
  refine lv_iconst (v := 0) hx hb dX10_isOnRoute_2 (by decide) ?_
  refine lv_istore_n (lv' := [(3, .int 0), (2, .int 0), (0, .ref (am 0)), (1, .int x)]) hx hb dX10_isOnRoute_3 rfl hl (by decide) rfl (fun ls hl => ?_)
  have hl : lv_has ls 4 [(3, .int 0), (2, .int (zb (hasB ro.2.1 x 0 = true))), (0, .ref (am 0)), (1, .int x)] := hl
  refine w_loop (α := Nat) (fun a9 => a9 ≤ ro.1) (fun a9 => ro.1 - a9) (fun a9 => [(0, .ref (am 0)), (1, .int x), (2, .int (zb (hasB ro.2.1 x a9 = true))), (3, .int (nI a9))]) 4 4 ?_ 0 (Nat.zero_le _) (show lv_has ls 4 [(0, .ref (am 0)), (1, .int x), (2, .int (zb (hasB ro.2.1 x 0 = true))), (3, .int (nI 0))] from lv_sub hl [2, 3, 1, 0] rfl)
  intro a9 ls hI hl ih_4
  obtain ⟨i, rfl⟩ : ∃ z, z = a9 := ⟨a9, rfl⟩
  have hI : i ≤ ro.1 := hI
  have hl : lv_has ls 4 [(0, .ref (am 0)), (1, .int x), (2, .int (zb (hasB ro.2.1 x i = true))), (3, .int (nI i))] := hl
  refine lv_iload_n hx hb dX10_isOnRoute_4 rfl (lv_at hl 3 rfl) ?_
  refine lv_aload_n hx hb dX10_isOnRoute_5 rfl (lv_at hl 0 rfl) ?_
  refine va_get (D := D) (ci := 10) (v := .int (nI ro.1)) (C := RX10) (T := TX10) (N := 41) hx hb hts hin10 hown hK.1 hP 0 rfl rfl 26 (by decide) (hts _ fl_X10_162) (fun _ h9 => h9) rfl dX10_isOnRoute_6 ?_
  refine lv_icmp_ge (tgt := 38) hx hb dX10_isOnRoute_9 (by decide) (fun c_1 => ?_) (fun c_1 => ?_)
  · skip
    have hge : ro.1 ≤ i := zge (by have := hI; omega) (by omega) c_1
    refine lv_iload_n hx hb dX10_isOnRoute_38 rfl (lv_at hl 2 rfl) ?_
    exact ro_zret hx hb hr hlocks (nar_zb _) (by rw [show ro.1 = i by omega]) dX10_isOnRoute_39
  · skip
    have hlt : i < ro.1 := zlt (by have := hI; omega) (by omega) c_1
    refine w_join (α := Int32) (fun a9 => a9 = (zb (hasB ro.2.1 x (i + 1) = true))) (fun a9 => [(0, .ref (am 0)), (1, .int x), (2, .int (zb (hasB ro.2.1 x i = true))), (3, .int (nI i))]) (fun a9 => [.int a9]) 31 4 (fun hJ_31 => ?_) ?_
    · skip
      refine lv_iload_n hx hb dX10_isOnRoute_12 rfl (lv_at hl 2 rfl) ?_
      refine lv_if_ne (tgt := 26) hx hb dX10_isOnRoute_13 (by decide) (fun c_2 => ?_) (fun c_2 => ?_)
      · skip
        have c_2 := zb_ne0 c_2
        refine lv_iconst (v := 1) hx hb dX10_isOnRoute_26 (by decide) ?_
        refine lv_goto (tgt := 31) hx hb dX10_isOnRoute_27 (by decide) ?_
        exact hJ_31 1 ls (show 1 = (zb (hasB ro.2.1 x (i + 1) = true)) from (zb_t (by rw [hasB, c_2]; rfl)).symm) (show lv_has ls 4 [(0, .ref (am 0)), (1, .int x), (2, .int (zb (hasB ro.2.1 x i = true))), (3, .int (nI i))] from lv_sub hl [0, 1, 2, 3] rfl)
      · skip
        have c_2 := zb_eq0 c_2
        refine lv_aload_n hx hb dX10_isOnRoute_16 rfl (lv_at hl 0 rfl) ?_
        refine va_get (D := D) (ci := 10) (v := .ref (am 16)) (C := RX10) (T := TX10) (N := 41) hx hb hts hin10 hown hK.1 hP 0 rfl rfl 27 (by decide) (hts _ fl_X10_60) (fun _ h9 => h9) rfl dX10_isOnRoute_17 ?_
        refine lv_iload_n hx hb dX10_isOnRoute_20 rfl (lv_at hl 3 rfl) ?_
        refine z_iald hx hb hK.1 hP 16 0 rfl rfl i rfl (show i < 10 by omega) (by decide) dX10_isOnRoute_21 ?_
        refine lv_iload_n hx hb dX10_isOnRoute_22 rfl (lv_at hl 1 rfl) ?_
        refine lv_icmp_ne (tgt := 30) hx hb dX10_isOnRoute_23 (by decide) (fun c_3 => ?_) (fun c_3 => ?_)
        · skip
          refine lv_iconst (v := 0) hx hb dX10_isOnRoute_30 (by decide) ?_
          exact hJ_31 0 ls (show 0 = (zb (hasB ro.2.1 x (i + 1) = true)) from (zb_f (by rw [hasB, Bool.or_eq_true, decide_eq_true_eq]; exact fun z9 => z9.elim c_2 c_3)).symm) (show lv_has ls 4 [(0, .ref (am 0)), (1, .int x), (2, .int (zb (hasB ro.2.1 x i = true))), (3, .int (nI i))] from lv_sub hl [0, 1, 2, 3] rfl)
        · skip
          refine lv_iconst (v := 1) hx hb dX10_isOnRoute_26 (by decide) ?_
          refine lv_goto (tgt := 31) hx hb dX10_isOnRoute_27 (by decide) ?_
          exact hJ_31 1 ls (show 1 = (zb (hasB ro.2.1 x (i + 1) = true)) from (zb_t (by rw [hasB, Bool.or_eq_true, decide_eq_true_eq]; exact Or.inr c_3)).symm) (show lv_has ls 4 [(0, .ref (am 0)), (1, .int x), (2, .int (zb (hasB ro.2.1 x i = true))), (3, .int (nI i))] from lv_sub hl [0, 1, 2, 3] rfl)
    · skip
      intro a9 ls hI hl
      obtain ⟨u9, rfl⟩ : ∃ z, z = a9 := ⟨a9, rfl⟩
      have hI : u9 = (zb (hasB ro.2.1 x (i + 1) = true)) := hI
      subst hI
      have hl : lv_has ls 4 [(0, .ref (am 0)), (1, .int x), (2, .int (zb (hasB ro.2.1 x i = true))), (3, .int (nI i))] := hl
      refine lv_istore_n (lv' := [(2, .int (zb (hasB ro.2.1 x (i + 1) = true))), (0, .ref (am 0)), (1, .int x), (3, .int (nI i))]) hx hb dX10_isOnRoute_31 rfl hl (by decide) rfl (fun ls hl => ?_)
      refine lv_iinc (v := (nI (i + 1))) (lv' := [(3, .int (nI (i + 1))), (2, .int (zb (hasB ro.2.1 x (i + 1) = true))), (0, .ref (am 0)), (1, .int x)]) hx hb dX10_isOnRoute_32 hl (k := 3) rfl (nI_add i 1) (by decide) rfl (fun ls hl => ?_)
      refine lv_goto (tgt := 4) hx hb dX10_isOnRoute_35 (by decide) ?_
      exact ih_4 (i + 1) ls (show (i + 1) ≤ ro.1 from hlt) (show ro.1 - (i + 1) < ro.1 - i from by omega) (show lv_has ls 4 [(0, .ref (am 0)), (1, .int x), (2, .int (zb (hasB ro.2.1 x (i + 1) = true))), (3, .int (nI (i + 1)))] from lv_sub hl [2, 3, 1, 0] rfl)

def mXadd (N : TN) (t : TT) (zf : Nat → Nat) (x y : Int32) : Int32 × TT := if 0 ≤ x ∧ x ≤ nI t.1 - 1 then if 0 ≤ y ∧ y ≤ 9 then if hasB (fun i9 => t.2.1 (6 * x.toNatClampNeg + i9)) y (zf x.toNatClampNeg) = true then (-4, t) else if mJo N (t.2.1 (6 * x.toNatClampNeg + zf x.toNatClampNeg - 1)) y (N_n N) = -1 then (-4, t) else if nI (zf x.toNatClampNeg) = 6 then (-5, t) else (nI (zf x.toNatClampNeg + 1), (t.1, upd t.2.1 (6 * x.toNatClampNeg + zf x.toNatClampNeg) y, upd t.2.2.1 x.toNatClampNeg (nI (zf x.toNatClampNeg + 1)), t.2.2.2.1, t.2.2.2.2)) else (-2, t) else (-2, t)
set_option maxHeartbeats 4000000 in
set_option maxRecDepth 100000 in
theorem c_X10_add (l : Launch) (D : va_G) (cI cZ : ClassId) (am : Nat → Nat) (N : TN) (hN16 : N_n N ≤ 16) (S : TS) (hS24 : S_n S ≤ 24) (q : TQ) (o : TO) (ho8 : o.1 ≤ 8) (ro : TR) (hr10 : ro.1 ≤ 10) (t : TT) (ht6 : t.1 ≤ 6) (fo : TF) (hf5 : fo.1 ≤ 5) (k : TC) (hk8 : k.2.1 ≤ 8) (z : TZ) (zf : Nat → Nat) (hzf : ∀ i, i < t.1 → t.2.2.1 i = nI (zf i) ∧ zf i ≤ 6) (hz1 : ∀ i, i < t.1 → 1 ≤ zf i) (x y : Int32) : MI l D cI cZ yX10_add wyX10_add ({ frames := 3, cells := 0, slots := 0, locals := 68 } : Room) [.ref (am 0), .int x, .int y] (wM am cI cZ N S q o ro t fo k z) (fun r u => (r, u) = mXadd N t zf x y) (fun (u : TT) => wM am cI cZ N S q o ro u fo k z) := by
  refine Met.ofW (cc := cX10_add) (maxL := 5) (ret := (some .int)) (by decide) rfl ?_
  intro p e s m args below meth c s₁ B hml hv
  obtain ⟨rfl, hK, hP, hD0⟩ := hv
  have hx := B.exec
  have hb := B.bytes
  have hr := B.returns
  have hts0 := atoms_spec (ws := wyX10_add) B.pre
  have hts : ∀ w ∈ big, w.before _ s = true := fun w h => hts0 w (List.mem_cons_of_mem _ h)
  have hown : s.vm.findClass RX10 = some m.cls := findClass_of_methodNamed B.named
  have hlocks := B.notSynchronized
  have hD := D_inW hD0
  have hS : va_S (inW (wM am cI cZ N S q o ro t fo k z)) s.heap s.heap [] := va_S.rf
  have hl := lv_entry ([.ref (am 0), .int x, .int y]) (n := 5) (Nat.le_of_ble_eq_true rfl)
  rw [lg_entry_eq]
  generalize (lg_sl ([.ref (am 0), .int x, .int y]) ++ List.replicate (5 - (lg_sl ([.ref (am 0), .int x, .int y])).length) Slot.unset).toArray = ls at hl ⊢
  have hl : lv_has ls 5 [(0, .ref (am 0)), (1, .int x), (2, .int y)] := hl
  refine lv_iload_n hx hb dX10_add_0 rfl (lv_at hl 1 rfl) ?_
  refine lv_iconst (v := 0) hx hb dX10_add_1 (by decide) ?_
  refine lv_aload_n hx hb dX10_add_2 rfl (lv_at hl 0 rfl) ?_
  refine va_get (D := D) (ci := 10) (v := .int (nI t.1)) (C := RX10) (T := TX10) (N := 41) hx hb hts hin10 hown hK.1 hP 0 rfl rfl 28 (by decide) (hts _ fl_X10_171) (fun _ h9 => h9) rfl dX10_add_3 ?_
  refine lv_iconst (v := 1) hx hb dX10_add_6 (by decide) ?_
  refine lv_isub hx hb dX10_add_7 ?_
  refine ro_S (As := [.int x, .int 0, .int ((nI t.1) - 1)]) (rest := []) ⟨hx, hb, hml, hown, hts⟩ (c_X10_in l D cI cZ  x 0 ((nI t.1) - 1)) (cw_X10_90 hts rfl rfl ⟨Nat.le_of_ble_eq_true rfl, Nat.le_of_ble_eq_true rfl⟩) hK P_nil rfl hl.1 rfl (Nat.le_of_ble_eq_true rfl) dX10_add_8 ⟨Nat.zero_le _, Nat.zero_le _⟩ ?_
  refine lv_if_eq (tgt := 21) hx hb dX10_add_11 (by decide) (fun c_1 => ?_) (fun c_1 => ?_)
  · skip
    have c_1 := zb_eq0 c_1
    refine lv_bipush (v := (-2)) hx hb dX10_add_21 (by decide) ?_
    exact mu_iret (v := (-2)) hx hb hr hlocks (t) (by show (((-2) : Int32), t) = mXadd N t zf x y; unfold mXadd; (first | rw [if_pos c_1] | rw [if_neg c_1] | skip); (try rfl)) (hP) hS dX10_add_23
  · skip
    have c_1 := zb_ne0 c_1
    obtain ⟨j, hj, ej⟩ := ix_of (n := t.1) c_1 (by omega)
    have hl : lv_has ls 5 [(0, .ref (am 0)), (1, .int (nI j)), (2, .int y)] := by rw [← ej]; exact hl
    rw [ej] at c_1
    refine lv_iload_n hx hb dX10_add_14 rfl (lv_at hl 2 rfl) ?_
    refine ro_S (As := [.int y]) (rest := []) ⟨hx, hb, hml, hown, hts⟩ (c_X10_isPlace l D cI cZ  y) (cw_X10_101 hts rfl rfl ⟨Nat.le_of_ble_eq_true rfl, Nat.le_of_ble_eq_true rfl⟩) hK P_nil rfl hl.1 rfl (Nat.le_of_ble_eq_true rfl) dX10_add_15 ⟨Nat.zero_le _, Nat.zero_le _⟩ ?_
    refine lv_if_ne (tgt := 24) hx hb dX10_add_18 (by decide) (fun c_2 => ?_) (fun c_2 => ?_)
    · skip
      have c_2 := zb_ne0 c_2
      refine lv_aload_n hx hb dX10_add_24 rfl (lv_at hl 0 rfl) ?_
      refine va_get (D := D) (ci := 10) (v := .ref (am 17)) (C := RX10) (T := TX10) (N := 41) hx hb hts hin10 hown hK.1 hP 0 rfl rfl 29 (by decide) (hts _ fl_X10_63) (fun _ h9 => h9) rfl dX10_add_25 ?_
      refine lv_iload_n hx hb dX10_add_28 rfl (lv_at hl 1 rfl) ?_
      refine z_iald hx hb hK.1 hP 17 0 rfl rfl j rfl (show j < 6 by omega) (by decide) dX10_add_29 ?_
      rw [(hzf j hj).1]
      refine lv_istore_n (lv' := [(3, .int (nI (zf j))), (0, .ref (am 0)), (1, .int (nI j)), (2, .int y)]) hx hb dX10_add_30 rfl hl (by decide) rfl (fun ls hl => ?_)
      refine lv_iconst (v := 0) hx hb dX10_add_31 (by decide) ?_
      refine lv_istore (lv' := [(4, .int 0), (3, .int (nI (zf j))), (0, .ref (am 0)), (1, .int (nI j)), (2, .int y)]) hx hb dX10_add_32 hl (by decide) rfl (fun ls hl => ?_)
      refine w_loopH (α := Nat) (fun a9 => a9 ≤ zf j ∧ hasB (fun i9 => t.2.1 (6 * j + i9)) y a9 = false) (fun a9 => zf j - a9) (fun a9 => wM am cI cZ N S q o ro t fo k z) (fun a9 => [(0, .ref (am 0)), (1, .int (nI j)), (2, .int y), (3, .int (nI (zf j))), (4, .int (nI a9))]) 34 5 ?_ 0 (⟨Nat.zero_le _, rfl⟩) (show lv_has ls 5 [(0, .ref (am 0)), (1, .int (nI j)), (2, .int y), (3, .int (nI (zf j))), (4, .int (nI 0))] from lv_sub hl [2, 3, 4, 1, 0] rfl) hP hD hS
      intro a9 ls H locs hI hl hP hD hS ih_34
      obtain ⟨i, rfl⟩ : ∃ z, z = a9 := ⟨a9, rfl⟩
      have hI : i ≤ zf j ∧ hasB (fun i9 => t.2.1 (6 * j + i9)) y i = false := hI
      have hl : lv_has ls 5 [(0, .ref (am 0)), (1, .int (nI j)), (2, .int y), (3, .int (nI (zf j))), (4, .int (nI i))] := hl
      have hP : va_P D vwCl (wM am cI cZ N S q o ro t fo k z) H := hP
      have hD : va_D _ (wM am cI cZ N S q o ro t fo k z) := hD
      refine lv_iload hx hb dX10_add_34 (lv_at hl 4 rfl) ?_
      refine lv_iload_n hx hb dX10_add_36 rfl (lv_at hl 3 rfl) ?_
      refine lv_icmp_ge (tgt := 65) hx hb dX10_add_37 (by decide) (fun c_3 => ?_) (fun c_3 => ?_)
      · skip
        have hge : zf j ≤ i := zge (by have := hI.1; have := (hzf j hj).2; omega) (by have := (hzf j hj).2; omega) c_3
        have hno : hasB (fun i9 => t.2.1 (6 * j + i9)) y (zf j) = false := by rw [show zf j = i by have := hI.1; omega]; exact hI.2
        refine lv_aload_n hx hb dX10_add_65 rfl (lv_at hl 0 rfl) ?_
        refine lv_aload_n hx hb dX10_add_66 rfl (lv_at hl 0 rfl) ?_
        refine va_get (D := D) (ci := 10) (v := .ref (am 18)) (C := RX10) (T := TX10) (N := 41) hx hb hts hin10 hown hK.1 hP 0 rfl rfl 30 (by decide) (hts _ fl_X10_66) (fun _ h9 => h9) rfl dX10_add_67 ?_
        refine lv_bipush (v := 6) hx hb dX10_add_70 (by decide) ?_
        refine lv_iload_n hx hb dX10_add_72 rfl (lv_at hl 1 rfl) ?_
        refine lv_imul hx hb dX10_add_73 ?_
        rw [show (6 : Int32) * nI j = nI (6 * j) from pk_mul 6 j]
        refine lv_iload_n hx hb dX10_add_74 rfl (lv_at hl 3 rfl) ?_
        refine lv_iadd hx hb dX10_add_75 ?_
        rw [nI_add]
        refine lv_iconst (v := 1) hx hb dX10_add_76 (by decide) ?_
        refine lv_isub hx hb dX10_add_77 ?_
        rw [show nI (6 * j + zf j) - 1 = nI (6 * j + zf j - 1) from pk_sub (a := 6 * j + zf j) (b := 1) (by have := hz1 j hj; omega)]
        refine z_iald hx hb hK.1 hP 18 0 rfl rfl (6 * j + zf j - 1) rfl (show 6 * j + zf j - 1 < 36 by have := (hzf j hj).2; omega) (by decide) dX10_add_78 ?_
        refine lv_iload_n hx hb dX10_add_79 rfl (lv_at hl 2 rfl) ?_
        refine ro_V (As := [.int (t.2.1 (6 * j + zf j - 1)), .int y]) (rest := []) ⟨hx, hb, hml, hown, hts⟩ (c_X10_joins l D cI cZ am N hN16 S hS24 q o ho8 ro hr10 t ht6 fo hf5 k hk8 z (t.2.1 (6 * j + zf j - 1)) y) (cw_X10_105 hts rfl rfl ⟨Nat.le_of_ble_eq_true rfl, Nat.le_of_ble_eq_true rfl⟩) hK hP (ci := 10) rfl rfl rfl hl.1 rfl (Nat.le_of_ble_eq_true rfl) dX10_add_80 ⟨Nat.zero_le _, Nat.zero_le _⟩ ?_
        refine lv_iconst (v := (-1)) hx hb dX10_add_83 (by decide) ?_
        refine lv_icmp_ne (tgt := 90) hx hb dX10_add_84 (by decide) (fun c_4 => ?_) (fun c_4 => ?_)
        · skip
          refine lv_iload_n hx hb dX10_add_90 rfl (lv_at hl 3 rfl) ?_
          refine lv_bipush (v := 6) hx hb dX10_add_91 (by decide) ?_
          refine lv_icmp_ne (tgt := 99) hx hb dX10_add_93 (by decide) (fun c_5 => ?_) (fun c_5 => ?_)
          · skip
            have hb9 : zf j < 6 := by have h9 : zf j ≠ 6 := fun q9 => c_5 (by rw [q9]; rfl); have := (hzf j hj).2; omega
            refine lv_aload_n hx hb dX10_add_99 rfl (lv_at hl 0 rfl) ?_
            refine va_get (D := D) (ci := 10) (v := .ref (am 18)) (C := RX10) (T := TX10) (N := 41) hx hb hts hin10 hown hK.1 hP 0 rfl rfl 30 (by decide) (hts _ fl_X10_66) (fun _ h9 => h9) rfl dX10_add_100 ?_
            refine lv_bipush (v := 6) hx hb dX10_add_103 (by decide) ?_
            refine lv_iload_n hx hb dX10_add_105 rfl (lv_at hl 1 rfl) ?_
            refine lv_imul hx hb dX10_add_106 ?_
            rw [show (6 : Int32) * nI j = nI (6 * j) from pk_mul 6 j]
            refine lv_iload_n hx hb dX10_add_107 rfl (lv_at hl 3 rfl) ?_
            refine lv_iadd hx hb dX10_add_108 ?_
            rw [nI_add]
            refine lv_iload_n hx hb dX10_add_109 rfl (lv_at hl 2 rfl) ?_
            refine z_iast hx hb hK.1 hP hD hS 18 0 rfl rfl (6 * j + zf j) rfl (show 6 * j + zf j < 36 by omega) (by decide)  dX10_add_110 (fun H locs hP hD hS => ?_)
            have hP : va_P D vwCl (wM am cI cZ N S q o ro (t.1, (upd t.2.1 (6 * j + zf j) y), t.2.2.1, t.2.2.2.1, t.2.2.2.2) fo k z) H := hP
            have hD : va_D _ (wM am cI cZ N S q o ro (t.1, (upd t.2.1 (6 * j + zf j) y), t.2.2.1, t.2.2.2.1, t.2.2.2.2) fo k z) := hD
            refine lv_aload_n hx hb dX10_add_111 rfl (lv_at hl 0 rfl) ?_
            refine va_get (D := D) (ci := 10) (v := .ref (am 17)) (C := RX10) (T := TX10) (N := 41) hx hb hts hin10 hown hK.1 hP 0 rfl rfl 29 (by decide) (hts _ fl_X10_63) (fun _ h9 => h9) rfl dX10_add_112 ?_
            refine lv_iload_n hx hb dX10_add_115 rfl (lv_at hl 1 rfl) ?_
            refine lv_dup2_11 hx hb dX10_add_116 rfl rfl ?_
            refine z_iald hx hb hK.1 hP 17 0 rfl rfl j rfl (show j < 6 by omega) (by decide) dX10_add_117 ?_
            rw [(hzf j hj).1]
            refine lv_iconst (v := 1) hx hb dX10_add_118 (by decide) ?_
            refine lv_iadd hx hb dX10_add_119 ?_
            rw [nI_1 (zf j)]
            refine z_iast hx hb hK.1 hP hD hS 17 0 rfl rfl j rfl (show j < 6 by omega) (by decide)  dX10_add_120 (fun H locs hP hD hS => ?_)
            have hP : va_P D vwCl (wM am cI cZ N S q o ro (t.1, (upd t.2.1 (6 * j + zf j) y), (upd t.2.2.1 j (nI ((zf j) + 1))), t.2.2.2.1, t.2.2.2.2) fo k z) H := hP
            have hD : va_D _ (wM am cI cZ N S q o ro (t.1, (upd t.2.1 (6 * j + zf j) y), (upd t.2.2.1 j (nI ((zf j) + 1))), t.2.2.2.1, t.2.2.2.2) fo k z) := hD
            refine lv_iload_n hx hb dX10_add_121 rfl (lv_at hl 3 rfl) ?_
            refine lv_iconst (v := 1) hx hb dX10_add_122 (by decide) ?_
            refine lv_iadd hx hb dX10_add_123 ?_
            rw [nI_1 (zf j)]
            exact mu_iret (v := (nI ((zf j) + 1))) hx hb hr hlocks ((t.1, (upd t.2.1 (6 * j + zf j) y), (upd t.2.2.1 j (nI ((zf j) + 1))), t.2.2.2.1, t.2.2.2.2)) (by show (((nI ((zf j) + 1)) : Int32), (t.1, (upd t.2.1 (6 * j + zf j) y), (upd t.2.2.1 j (nI ((zf j) + 1))), t.2.2.2.1, t.2.2.2.2)) = mXadd N t zf x y; unfold mXadd; rw [ej, nI_cl (by omega)]; rw [if_pos c_1, if_pos c_2]; rw [if_neg (by rw [hno]; decide)]; (first | rw [if_pos c_4] | rw [if_neg c_4] | skip); (first | rw [if_pos c_5] | rw [if_neg c_5] | skip)) (hP) hS dX10_add_124
          · skip
            refine lv_bipush (v := (-5)) hx hb dX10_add_96 (by decide) ?_
            exact mu_iret (v := (-5)) hx hb hr hlocks (t) (by show (((-5) : Int32), t) = mXadd N t zf x y; unfold mXadd; rw [ej, nI_cl (by omega)]; rw [if_pos c_1, if_pos c_2]; rw [if_neg (by rw [hno]; decide)]; (first | rw [if_pos c_4] | rw [if_neg c_4] | skip); (first | rw [if_pos c_5] | rw [if_neg c_5] | skip)) (hP) hS dX10_add_98
        · skip
          refine lv_bipush (v := (-4)) hx hb dX10_add_87 (by decide) ?_
          exact mu_iret (v := (-4)) hx hb hr hlocks (t) (by show (((-4) : Int32), t) = mXadd N t zf x y; unfold mXadd; rw [ej, nI_cl (by omega)]; rw [if_pos c_1, if_pos c_2]; rw [if_neg (by rw [hno]; decide)]; (first | rw [if_pos c_4] | rw [if_neg c_4] | skip)) (hP) hS dX10_add_89
      · skip
        have hlt : i < zf j := zlt (by have := hI.1; have := (hzf j hj).2; omega) (by have := (hzf j hj).2; omega) c_3
        refine lv_aload_n hx hb dX10_add_40 rfl (lv_at hl 0 rfl) ?_
        refine va_get (D := D) (ci := 10) (v := .ref (am 18)) (C := RX10) (T := TX10) (N := 41) hx hb hts hin10 hown hK.1 hP 0 rfl rfl 30 (by decide) (hts _ fl_X10_66) (fun _ h9 => h9) rfl dX10_add_41 ?_
        refine lv_bipush (v := 6) hx hb dX10_add_44 (by decide) ?_
        refine lv_iload_n hx hb dX10_add_46 rfl (lv_at hl 1 rfl) ?_
        refine lv_imul hx hb dX10_add_47 ?_
        rw [show (6 : Int32) * nI j = nI (6 * j) from pk_mul 6 j]
        refine lv_iload hx hb dX10_add_48 (lv_at hl 4 rfl) ?_
        refine lv_iadd hx hb dX10_add_50 ?_
        rw [nI_add]
        refine z_iald hx hb hK.1 hP 18 0 rfl rfl (6 * j + i) rfl (show 6 * j + i < 36 by have := (hzf j hj).2; omega) (by decide) dX10_add_51 ?_
        refine lv_iload_n hx hb dX10_add_52 rfl (lv_at hl 2 rfl) ?_
        refine lv_icmp_ne (tgt := 59) hx hb dX10_add_53 (by decide) (fun c_6 => ?_) (fun c_6 => ?_)
        · skip
          refine lv_iinc (v := (nI (i + 1))) (lv' := [(4, .int (nI (i + 1))), (0, .ref (am 0)), (1, .int (nI j)), (2, .int y), (3, .int (nI (zf j)))]) hx hb dX10_add_59 hl (k := 4) rfl (nI_add i 1) (by decide) rfl (fun ls hl => ?_)
          refine lv_goto (tgt := 34) hx hb dX10_add_62 (by decide) ?_
          exact ih_34 (i + 1) ls H locs (show (i + 1) ≤ zf j ∧ hasB (fun i9 => t.2.1 (6 * j + i9)) y (i + 1) = false from ⟨hlt, by rw [hasB, hI.2, Bool.false_or, decide_eq_false_iff_not]; exact c_6⟩) (show zf j - (i + 1) < zf j - i from by omega) (show lv_has ls 5 [(0, .ref (am 0)), (1, .int (nI j)), (2, .int y), (3, .int (nI (zf j))), (4, .int (nI (i + 1)))] from lv_sub hl [1, 2, 3, 4, 0] rfl) hP hD hS
        · skip
          have hyes : hasB (fun i9 => t.2.1 (6 * j + i9)) y (zf j) = true := (hasB_iff _).mpr ⟨i, hlt, c_6⟩
          refine lv_bipush (v := (-4)) hx hb dX10_add_56 (by decide) ?_
          exact mu_iret (v := (-4)) hx hb hr hlocks (t) (by show (((-4) : Int32), t) = mXadd N t zf x y; unfold mXadd; rw [ej, nI_cl (by omega)]; rw [if_pos c_1, if_pos c_2]; rw [if_pos hyes]) (hP) hS dX10_add_58
    · skip
      have c_2 := zb_eq0 c_2
      refine lv_bipush (v := (-2)) hx hb dX10_add_21 (by decide) ?_
      exact mu_iret (v := (-2)) hx hb hr hlocks (t) (by show (((-2) : Int32), t) = mXadd N t zf x y; unfold mXadd; rw [ej, nI_cl (by omega)]; (first | rw [if_pos c_1] | rw [if_neg c_1] | skip); (first | rw [if_pos c_2] | rw [if_neg c_2] | skip); (try rfl)) (hP) hS dX10_add_23

def mHd (hh : Nat) : Nat → Nat → Nat
  | 0, l9 => l9
  | n9 + 1, l9 => mHd hh n9 (l9 / hh)
def mHo (n hh sp b : Nat) : Nat := mHd hh (n - 1 - b) sp % hh
theorem mHo_lt {n hh sp b : Nat} (h : 0 < hh) : mHo n hh sp b < hh := Nat.mod_lt _ h
set_option maxHeartbeats 4000000 in
set_option maxRecDepth 100000 in
theorem c_X10_houndOf (l : Launch) (D : va_G) (cI cZ : ClassId) (am : Nat → Nat) (N : TN) (hN16 : N_n N ≤ 16) (S : TS) (hS24 : S_n S ≤ 24) (q : TQ) (o : TO) (ho8 : o.1 ≤ 8) (ro : TR) (hr10 : ro.1 ≤ 10) (t : TT) (ht6 : t.1 ≤ 6) (fo : TF) (hf5 : fo.1 ≤ 5) (k : TC) (hk8 : k.2.1 ≤ 8) (z : TZ) (sp hh b : Nat) (hsp : sp < 2 ^ 31) (hh0 : 0 < hh) (hh3 : hh ≤ 3) (hb : b < fo.1) : RO l D cI cZ yX10_houndOf wyX10_houndOf ({ frames := 0, cells := 0, slots := 0, locals := 0 } : Room) [.ref (am 0), .int (nI sp), .int (nI hh), .int (nI b)] (wM am cI cZ N S q o ro t fo k z) (nI (mHo fo.1 hh sp b)) := by
  refine Met.ofW (cc := cX10_houndOf) (maxL := 6) (ret := (some .int)) (by decide) rfl ?_
  intro p e s m args below meth c s₁ B hml hv
  obtain ⟨rfl, hK, hP⟩ := hv
  have hx := B.exec
  have hb := B.bytes
  have hr := B.returns
  have hts0 := atoms_spec (ws := wyX10_houndOf) B.pre
  have hts : ∀ w ∈ big, w.before _ s = true := fun w h => hts0 w (List.mem_cons_of_mem _ h)
  have hown : s.vm.findClass RX10 = some m.cls := findClass_of_methodNamed B.named
  have hlocks := B.notSynchronized
  have hl := lv_entry ([.ref (am 0), .int (nI sp), .int (nI hh), .int (nI b)]) (n := 6) (Nat.le_of_ble_eq_true rfl)
  rw [lg_entry_eq]
  generalize (lg_sl ([.ref (am 0), .int (nI sp), .int (nI hh), .int (nI b)]) ++ List.replicate (6 - (lg_sl ([.ref (am 0), .int (nI sp), .int (nI hh), .int (nI b)])).length) Slot.unset).toArray = ls at hl ⊢
  have hl : lv_has ls 6 [(0, .ref (am 0)), (1, .int (nI sp)), (2, .int (nI hh)), (3, .int (nI b))] := hl
  refine lv_iload_n hx hb dX10_houndOf_0 rfl (lv_at hl 1 rfl) ?_
  refine lv_istore (lv' := [(4, .int (nI sp)), (0, .ref (am 0)), (1, .int (nI sp)), (2, .int (nI hh)), (3, .int (nI b))]) hx hb dX10_houndOf_1 hl (by decide) rfl (fun ls hl => ?_)
  refine lv_aload_n hx hb dX10_houndOf_3 rfl (lv_at hl 1 rfl) ?_
  refine va_get (D := D) (ci := 10) (v := .int (nI fo.1)) (C := RX10) (T := TX10) (N := 41) hx hb hts hin10 hown hK.1 hP 0 rfl rfl 32 (by decide) (hts _ fl_X10_180) (fun _ h9 => h9) rfl dX10_houndOf_4 ?_
  refine lv_iconst (v := 1) hx hb dX10_houndOf_7 (by decide) ?_
  refine lv_isub hx hb dX10_houndOf_8 ?_
  rw [show nI fo.1 - 1 = nI (fo.1 - 1) from pk_sub (a := fo.1) (b := 1) (by omega)]
  refine lv_istore (lv' := [(5, .int (nI (fo.1 - 1))), (4, .int (nI sp)), (0, .ref (am 0)), (1, .int (nI sp)), (2, .int (nI hh)), (3, .int (nI b))]) hx hb dX10_houndOf_9 hl (by decide) rfl (fun ls hl => ?_)
  refine w_loop (α := Nat × Nat) (fun a9 => (b ≤ a9.1 ∧ a9.1 < fo.1) ∧ a9.2 < 2 ^ 31 ∧ mHd hh (a9.1 - b) a9.2 % hh = mHo fo.1 hh sp b) (fun a9 => a9.1) (fun a9 => [(0, .ref (am 0)), (2, .int (nI hh)), (3, .int (nI b)), (4, .int (nI a9.2)), (5, .int (nI a9.1))]) 11 6 ?_ ((fo.1 - 1), sp) (⟨⟨by omega, by omega⟩, hsp, rfl⟩) (show lv_has ls 6 [(0, .ref (am 0)), (2, .int (nI hh)), (3, .int (nI b)), (4, .int (nI sp)), (5, .int (nI (fo.1 - 1)))] from lv_sub hl [2, 4, 5, 1, 0] rfl)
  intro a9 ls hI hl ih_11
  obtain ⟨k9, lf⟩ := a9
  have hI : (b ≤ k9 ∧ k9 < fo.1) ∧ lf < 2 ^ 31 ∧ mHd hh (k9 - b) lf % hh = mHo fo.1 hh sp b := hI
  have hl : lv_has ls 6 [(0, .ref (am 0)), (2, .int (nI hh)), (3, .int (nI b)), (4, .int (nI lf)), (5, .int (nI k9))] := hl
  refine lv_iload hx hb dX10_houndOf_11 (lv_at hl 4 rfl) ?_
  refine lv_iload_n hx hb dX10_houndOf_13 rfl (lv_at hl 2 rfl) ?_
  refine lv_icmp_le (tgt := 29) hx hb dX10_houndOf_14 (by decide) (fun c_1 => ?_) (fun c_1 => ?_)
  · skip
    have hkb : k9 = b := by have h9 := c_1; rw [nI_leI (by omega) (by omega)] at h9; omega
    refine lv_iload hx hb dX10_houndOf_29 (lv_at hl 3 rfl) ?_
    refine lv_iload_n hx hb dX10_houndOf_31 rfl (lv_at hl 1 rfl) ?_
    refine lv_irem hx hb dX10_houndOf_32 (show ¬ nI hh = 0 from nI_ne0 hh0 (by omega)) ?_
    rw [show nI lf - nI lf / nI hh * nI hh = nI (lf % hh) from pk_rem hI.2.1 hh0 (by omega)]
    exact ro_iret hx hb hr hlocks (by rw [← hI.2.2, hkb, Nat.sub_self, mHd]) dX10_houndOf_33
  · skip
    obtain ⟨k8, hk8, hkb⟩ : ∃ k8, k9 = k8 + 1 ∧ b ≤ k8 := ⟨k9 - 1, by have h9 := c_1; rw [nI_leI (by omega) (by omega)] at h9; omega, by have h9 := c_1; rw [nI_leI (by omega) (by omega)] at h9; omega⟩
    have hl : lv_has ls 6 [(0, .ref (am 0)), (2, .int (nI hh)), (3, .int (nI b)), (4, .int (nI lf)), (5, .int (nI (k8 + 1)))] := by rw [← hk8]; exact hl
    refine lv_iload hx hb dX10_houndOf_17 (lv_at hl 3 rfl) ?_
    refine lv_iload_n hx hb dX10_houndOf_19 rfl (lv_at hl 1 rfl) ?_
    refine lv_idiv hx hb dX10_houndOf_20 (show ¬ nI hh = 0 from nI_ne0 hh0 (by omega)) ?_
    rw [show nI lf / nI hh = nI (lf / hh) from pk_div hI.2.1 hh0 (by omega)]
    refine lv_istore (lv' := [(4, .int (nI (lf / hh))), (0, .ref (am 0)), (2, .int (nI hh)), (3, .int (nI b)), (5, .int (nI (k8 + 1)))]) hx hb dX10_houndOf_21 hl (by decide) rfl (fun ls hl => ?_)
    refine lv_iinc (v := (nI k8)) (lv' := [(5, .int (nI k8)), (4, .int (nI (lf / hh))), (0, .ref (am 0)), (2, .int (nI hh)), (3, .int (nI b))]) hx hb dX10_houndOf_23 hl (k := 4) rfl (pk_m1 k8) (by decide) rfl (fun ls hl => ?_)
    refine lv_goto (tgt := 11) hx hb dX10_houndOf_26 (by decide) ?_
    exact ih_11 (k8, (lf / hh)) ls (show (b ≤ k8 ∧ k8 < fo.1) ∧ (lf / hh) < 2 ^ 31 ∧ mHd hh (k8 - b) (lf / hh) % hh = mHo fo.1 hh sp b from ⟨⟨by omega, by omega⟩, Nat.lt_of_le_of_lt (Nat.div_le_self _ _) hI.2.1, by rw [← hI.2.2, show k9 - b = (k8 - b) + 1 by omega, mHd]⟩) (show k8 < k9 from by omega) (show lv_has ls 6 [(0, .ref (am 0)), (2, .int (nI hh)), (3, .int (nI b)), (4, .int (nI (lf / hh))), (5, .int (nI k8))] from lv_sub hl [2, 3, 4, 1, 0] rfl)
