def jCA (x y : Int32) : Int32 := if jBc (x &&& (y ^^^ (-1))) = 1 then jBc ((x &&& (y ^^^ (-1))) - 1) else if x = 0 then -2 else -1
/-- at a sign: camp; what points; what is barred -/
def jCm (S : TS) (sb : Nat → Int32) (q : TQ) (N : TN) (x k : Int32) : Nat → Bool
  | 0 => false
  | i + 1 => jCm S sb q N x k i || decide (jSn S sb q N (nI i) x k = true ∧ S_k S i = 2 ∧ S_v S i = 0)
def jPt (S : TS) (sb : Nat → Int32) (q : TQ) (N : TN) (x k : Int32) : Nat → Int32
  | 0 => -1
  | i + 1 => if jSn S sb q N (nI i) x k = true ∧ S_k S i = 0 then S_v S i else jPt S sb q N x k i
def jBr (S : TS) (sb : Nat → Int32) (q : TQ) (N : TN) (x k : Int32) : Nat → Int32
  | 0 => 0
  | i + 1 => if jSn S sb q N (nI i) x k = true then jBr S sb q N x k i ||| (if S_k S i = 1 then zbt (S_v S i) else 0) else jBr S sb q N x k i
theorem jCm_mono {S : TS} {sb : Nat → Int32} {q : TQ} {N : TN} {x k : Int32} : ∀ (d i : Nat), jCm S sb q N x k i = true → jCm S sb q N x k (i + d) = true
  | 0, _, h => h
  | d + 1, i, h => by rw [← Nat.add_assoc, jCm, jCm_mono d i h]; rfl
def jCh (S : TS) (sb : Nat → Int32) (q : TQ) (N : TN) (pb : Nat → Int32) (x k : Int32) : Int32 :=
  if jCm S sb q N x k (S_n S) = true then -3 else if jPt S sb q N x k (S_n S) = -1 then jCA (zPb pb x &&& (zbt k ^^^ (-1))) (jBr S sb q N x k (S_n S)) else jPt S sb q N x k (S_n S)
set_option maxHeartbeats 4000000 in
set_option maxRecDepth 100000 in
theorem c_X8_choiceAmong (l : Launch) (D : va_G) (cI cZ : ClassId) (a : Nat → Nat) (w : Nat × (Nat → Int32) × Int32 × Int32) (hw : w.1 ≤ 31) (x y : Int32) : RO l D cI cZ yX8_choiceAmong wyX8_choiceAmong ({ frames := 1, cells := 0, slots := 0, locals := 20 } : Room) [.ref (a 25), .int x, .int y] (wWk a cI w) (jCA x y) := by
  refine Met.ofW (cc := cX8_choiceAmong) (maxL := 4) (ret := (some .int)) (by decide) rfl ?_
  intro p e s m args below meth c s₁ B hml hv
  obtain ⟨rfl, hK, hP⟩ := hv
  have hx := B.exec
  have hb := B.bytes
  have hr := B.returns
  have hts0 := atoms_spec (ws := wyX8_choiceAmong) B.pre
  have hts : ∀ w ∈ big, w.before _ s = true := fun w h => hts0 w (List.mem_cons_of_mem _ h)
  have hown : s.vm.findClass RX8 = some m.cls := findClass_of_methodNamed B.named
  have hlocks := B.notSynchronized
  have hl := lv_entry ([.ref (a 25), .int x, .int y]) (n := 4) (Nat.le_of_ble_eq_true rfl)
  rw [lg_entry_eq]
  generalize (lg_sl ([.ref (a 25), .int x, .int y]) ++ List.replicate (4 - (lg_sl ([.ref (a 25), .int x, .int y])).length) Slot.unset).toArray = ls at hl ⊢
  have hl : lv_has ls 4 [(0, .ref (a 25)), (1, .int x), (2, .int y)] := hl
  refine lv_iload_n hx hb dX8_choiceAmong_0 rfl (lv_at hl 1 rfl) ?_
  refine lv_iload_n hx hb dX8_choiceAmong_1 rfl (lv_at hl 2 rfl) ?_
  refine lv_iconst (v := (-1)) hx hb dX8_choiceAmong_2 (by decide) ?_
  refine lv_ixor hx hb dX8_choiceAmong_3 ?_
  refine lv_iand hx hb dX8_choiceAmong_4 ?_
  refine lv_istore_n (lv' := [(3, .int (x &&& (y ^^^ (-1)))), (0, .ref (a 25)), (1, .int x), (2, .int y)]) hx hb dX8_choiceAmong_5 rfl hl (by decide) rfl (fun ls hl => ?_)
  refine lv_iload_n hx hb dX8_choiceAmong_6 rfl (lv_at hl 0 rfl) ?_
  refine ro_S (As := [.int (x &&& (y ^^^ (-1)))]) (rest := []) ⟨hx, hb, hml, hown, hts⟩ (c_J6_bitCount_0f7a4 l D cI cZ  (x &&& (y ^^^ (-1)))) (cw_X8_64 hts rfl rfl ⟨Nat.le_of_ble_eq_true rfl, Nat.le_of_ble_eq_true rfl⟩) hK P_nil rfl hl.1 rfl (Nat.le_of_ble_eq_true rfl) dX8_choiceAmong_7 ⟨Nat.zero_le _, Nat.zero_le _⟩ ?_
  refine lv_iconst (v := 1) hx hb dX8_choiceAmong_10 (by decide) ?_
  refine lv_icmp_ne (tgt := 21) hx hb dX8_choiceAmong_11 (by decide) (fun c_1 => ?_) (fun c_1 => ?_)
  · skip
    refine lv_iload_n hx hb dX8_choiceAmong_21 rfl (lv_at hl 2 rfl) ?_
    refine lv_if_ne (tgt := 30) hx hb dX8_choiceAmong_22 (by decide) (fun c_2 => ?_) (fun c_2 => ?_)
    · skip
      refine lv_iconst (v := (-1)) hx hb dX8_choiceAmong_30 (by decide) ?_
      exact ro_iret hx hb hr hlocks (by unfold jCA; (first | rw [if_pos c_1] | rw [if_neg c_1] | skip); (first | rw [if_pos c_2] | rw [if_neg c_2] | skip)) dX8_choiceAmong_31
    · skip
      refine lv_bipush (v := (-2)) hx hb dX8_choiceAmong_25 (by decide) ?_
      refine lv_goto (tgt := 31) hx hb dX8_choiceAmong_27 (by decide) ?_
      exact ro_iret hx hb hr hlocks (by unfold jCA; (first | rw [if_pos c_1] | rw [if_neg c_1] | skip); (first | rw [if_pos c_2] | rw [if_neg c_2] | skip)) dX8_choiceAmong_31
  · skip
    refine lv_iload_n hx hb dX8_choiceAmong_14 rfl (lv_at hl 0 rfl) ?_
    refine lv_iconst (v := 1) hx hb dX8_choiceAmong_15 (by decide) ?_
    refine lv_isub hx hb dX8_choiceAmong_16 ?_
    refine ro_S (As := [.int ((x &&& (y ^^^ (-1))) - 1)]) (rest := []) ⟨hx, hb, hml, hown, hts⟩ (c_J6_bitCount_0f7a4 l D cI cZ  ((x &&& (y ^^^ (-1))) - 1)) (cw_X8_64 hts rfl rfl ⟨Nat.le_of_ble_eq_true rfl, Nat.le_of_ble_eq_true rfl⟩) hK P_nil rfl hl.1 rfl (Nat.le_of_ble_eq_true rfl) dX8_choiceAmong_17 ⟨Nat.zero_le _, Nat.zero_le _⟩ ?_
    exact ro_iret hx hb hr hlocks (by unfold jCA; (first | rw [if_pos c_1] | rw [if_neg c_1] | skip)) dX8_choiceAmong_20

set_option maxHeartbeats 4000000 in
set_option maxRecDepth 100000 in
theorem c_X8_choice (l : Launch) (D : va_G) (cI cZ : ClassId) (a : Nat → Nat) (w : Nat × (Nat → Int32) × Int32 × Int32) (hw : w.1 ≤ 31) (S : TS) (sb : Nat → Int32) (q : TQ) (hS24 : S_n S ≤ 24) (N : TN) (pb : Nat → Int32) (hN16 : N_n N ≤ 16) (x k2 : Int32) : RO l D cI cZ yX8_choice wyX8_choice ({ frames := 3, cells := 0, slots := 0, locals := 66 } : Room) [.ref (a 25), .int x, .int k2] (wWk a cI w ++ wSg a cI S sb q ++ wNet a cI N pb) (jCh S sb q N pb x k2) := by
  refine Met.ofW (cc := cX8_choice) (maxL := 8) (ret := (some .int)) (by decide) rfl ?_
  intro p e s m args below meth c s₁ B hml hv
  obtain ⟨rfl, hK, hP⟩ := hv
  have hx := B.exec
  have hb := B.bytes
  have hr := B.returns
  have hts0 := atoms_spec (ws := wyX8_choice) B.pre
  have hts : ∀ w ∈ big, w.before _ s = true := fun w h => hts0 w (List.mem_cons_of_mem _ h)
  have hown : s.vm.findClass RX8 = some m.cls := findClass_of_methodNamed B.named
  have hlocks := B.notSynchronized
  have hl := lv_entry ([.ref (a 25), .int x, .int k2]) (n := 8) (Nat.le_of_ble_eq_true rfl)
  rw [lg_entry_eq]
  generalize (lg_sl ([.ref (a 25), .int x, .int k2]) ++ List.replicate (8 - (lg_sl ([.ref (a 25), .int x, .int k2])).length) Slot.unset).toArray = ls at hl ⊢
  have hl : lv_has ls 8 [(0, .ref (a 25)), (1, .int x), (2, .int k2)] := hl
  refine lv_iconst (v := (-1)) hx hb dX8_choice_0 (by decide) ?_
  refine lv_istore_n (lv' := [(3, .int (-1)), (0, .ref (a 25)), (1, .int x), (2, .int k2)]) hx hb dX8_choice_1 rfl hl (by decide) rfl (fun ls hl => ?_)
  refine lv_iconst (v := 0) hx hb dX8_choice_2 (by decide) ?_
  refine lv_istore (lv' := [(4, .int 0), (3, .int (-1)), (0, .ref (a 25)), (1, .int x), (2, .int k2)]) hx hb dX8_choice_3 hl (by decide) rfl (fun ls hl => ?_)
  refine lv_iconst (v := 0) hx hb dX8_choice_5 (by decide) ?_
  refine lv_istore (lv' := [(5, .int 0), (4, .int 0), (3, .int (-1)), (0, .ref (a 25)), (1, .int x), (2, .int k2)]) hx hb dX8_choice_6 hl (by decide) rfl (fun ls hl => ?_)
  refine w_loop (α := Nat) (fun a9 => a9 ≤ S_n S ∧ jCm S sb q N x k2 a9 = false) (fun a9 => S_n S - a9) (fun a9 => [(0, .ref (a 25)), (1, .int x), (2, .int k2), (3, .int (jPt S sb q N x k2 a9)), (4, .int (jBr S sb q N x k2 a9)), (5, .int (nI a9))]) 8 8 ?_ 0 (⟨Nat.zero_le _, rfl⟩) (show lv_has ls 8 [(0, .ref (a 25)), (1, .int x), (2, .int k2), (3, .int (jPt S sb q N x k2 0)), (4, .int (jBr S sb q N x k2 0)), (5, .int (nI 0))] from lv_sub hl [3, 4, 5, 2, 1, 0] rfl)
  intro a9 ls hI hl ih_8
  obtain ⟨k, rfl⟩ : ∃ z, z = a9 := ⟨a9, rfl⟩
  have hI : k ≤ S_n S ∧ jCm S sb q N x k2 k = false := hI
  have hl : lv_has ls 8 [(0, .ref (a 25)), (1, .int x), (2, .int k2), (3, .int (jPt S sb q N x k2 k)), (4, .int (jBr S sb q N x k2 k)), (5, .int (nI k))] := hl
  refine lv_iload hx hb dX8_choice_8 (lv_at hl 5 rfl) ?_
  refine lv_aload_n hx hb dX8_choice_10 rfl (lv_at hl 0 rfl) ?_
  refine va_get (D := D) (ci := 8) (v := .ref (a 10)) (C := RX8) (T := TX8) (N := 5) hx hb hts hin8 hown hK.1 hP 0 rfl rfl 1 (by decide) (hts _ fl_X8_31) (fun _ h9 => h9) rfl dX8_choice_11 ?_
  refine ro_V (As := []) (rest := [.int (nI k)]) ⟨hx, hb, hml, hown, hts⟩ (c_X6_signCount l D cI cZ a S sb q hS24) (cw_X8_35 hts rfl rfl ⟨Nat.le_of_ble_eq_true rfl, Nat.le_of_ble_eq_true rfl⟩) hK (hP.sub [3, 4, 5, 6, 7, 8, 9, 10, 11, 12, 13, 14, 15, 16, 17] rfl) (ci := 6) rfl rfl rfl hl.1 rfl (Nat.le_of_ble_eq_true rfl) dX8_choice_14 ⟨Nat.zero_le _, Nat.zero_le _⟩ ?_
  refine lv_icmp_ge (tgt := 111) hx hb dX8_choice_17 (by decide) (fun c_1 => ?_) (fun c_1 => ?_)
  · skip
    have hge : S_n S ≤ k := zge (by have := hI.1; have := hS24; omega) (by have := hS24; omega) c_1
    refine lv_iload_n hx hb dX8_choice_111 rfl (lv_at hl 3 rfl) ?_
    refine lv_iconst (v := (-1)) hx hb dX8_choice_112 (by decide) ?_
    refine lv_icmp_eq (tgt := 120) hx hb dX8_choice_113 (by decide) (fun c_2 => ?_) (fun c_2 => ?_)
    · skip
      refine lv_aload_n hx hb dX8_choice_120 rfl (lv_at hl 0 rfl) ?_
      refine lv_aload_n hx hb dX8_choice_121 rfl (lv_at hl 0 rfl) ?_
      refine va_get (D := D) (ci := 8) (v := .ref (a 1)) (C := RX8) (T := TX8) (N := 5) hx hb hts hin8 hown hK.1 hP 0 rfl rfl 0 (by decide) (hts _ fl_X8_27) (fun _ h9 => h9) rfl dX8_choice_122 ?_
      refine lv_iload_n hx hb dX8_choice_125 rfl (lv_at hl 1 rfl) ?_
      refine ro_V (As := [.int x]) (rest := [.ref (a 25)]) ⟨hx, hb, hml, hown, hts⟩ (c_X2_pathsAt l D cI cZ a N pb hN16 x) (cw_X8_55 hts rfl rfl ⟨Nat.le_of_ble_eq_true rfl, Nat.le_of_ble_eq_true rfl⟩) hK (hP.sub [18, 19, 20, 21, 22, 23, 24, 25, 26] rfl) (ci := 2) rfl rfl rfl hl.1 rfl (Nat.le_of_ble_eq_true rfl) dX8_choice_126 ⟨Nat.zero_le _, Nat.zero_le _⟩ ?_
      refine lv_iload_n hx hb dX8_choice_129 rfl (lv_at hl 2 rfl) ?_
      refine ro_SN (As := [.int k2]) (rest := [.int (zPb pb x), .ref (a 25)]) ⟨hx, hb, hml, hown, hts⟩ (c_X9_bitOf l D cI cZ  k2) (cw_X8_52 hts rfl rfl hK ⟨Nat.le_of_ble_eq_true rfl, Nat.le_of_ble_eq_true rfl⟩) hK P_nil rfl hl.1 rfl (Nat.le_of_ble_eq_true rfl) dX8_choice_130 ⟨Nat.zero_le _, Nat.zero_le _⟩ ?_
      refine lv_iconst (v := (-1)) hx hb dX8_choice_133 (by decide) ?_
      refine lv_ixor hx hb dX8_choice_134 ?_
      refine lv_iand hx hb dX8_choice_135 ?_
      refine lv_iload hx hb dX8_choice_136 (lv_at hl 4 rfl) ?_
      refine ro_V (As := [.int ((zPb pb x) &&& ((zbt k2) ^^^ (-1))), .int (jBr S sb q N x k2 k)]) (rest := []) ⟨hx, hb, hml, hown, hts⟩ (c_X8_choiceAmong l D cI cZ a w (show w.1 ≤ 31 from hw) ((zPb pb x) &&& ((zbt k2) ^^^ (-1))) (jBr S sb q N x k2 k)) (cw_X8_60 hts rfl rfl ⟨Nat.le_of_ble_eq_true rfl, Nat.le_of_ble_eq_true rfl⟩) hK (hP.sub [0, 1, 2] rfl) (ci := 8) rfl rfl rfl hl.1 rfl (Nat.le_of_ble_eq_true rfl) dX8_choice_138 ⟨Nat.zero_le _, Nat.zero_le _⟩ ?_
      exact ro_iret hx hb hr hlocks (by unfold jCh; rw [show S_n S = k by omega, if_neg (by rw [hI.2]; decide)]; simp [c_2]) dX8_choice_141
    · skip
      refine lv_iload_n hx hb dX8_choice_116 rfl (lv_at hl 3 rfl) ?_
      refine lv_goto (tgt := 141) hx hb dX8_choice_117 (by decide) ?_
      exact ro_iret hx hb hr hlocks (by unfold jCh; rw [show S_n S = k by omega, if_neg (by rw [hI.2]; decide)]; simp [c_2]) dX8_choice_141
  · skip
    have hlt : k < S_n S := zlt (by have := hI.1; have := hS24; omega) (by have := hS24; omega) c_1
    refine lv_aload_n hx hb dX8_choice_20 rfl (lv_at hl 0 rfl) ?_
    refine va_get (D := D) (ci := 8) (v := .ref (a 10)) (C := RX8) (T := TX8) (N := 5) hx hb hts hin8 hown hK.1 hP 0 rfl rfl 1 (by decide) (hts _ fl_X8_31) (fun _ h9 => h9) rfl dX8_choice_21 ?_
    refine lv_iload hx hb dX8_choice_24 (lv_at hl 5 rfl) ?_
    refine lv_iload_n hx hb dX8_choice_26 rfl (lv_at hl 1 rfl) ?_
    refine lv_iload_n hx hb dX8_choice_27 rfl (lv_at hl 2 rfl) ?_
    refine ro_V (As := [.int (nI k), .int x, .int k2]) (rest := []) ⟨hx, hb, hml, hown, hts⟩ (c_X6_isSeen l D cI cZ a S sb q hS24 N pb hN16 (nI k) x k2) (cw_X8_41 hts rfl rfl ⟨Nat.le_of_ble_eq_true rfl, Nat.le_of_ble_eq_true rfl⟩) hK (hP.sub [3, 4, 5, 6, 7, 8, 9, 10, 11, 12, 13, 14, 15, 16, 17, 18, 19, 20, 21, 22, 23, 24, 25, 26] rfl) (ci := 6) rfl rfl rfl hl.1 rfl (Nat.le_of_ble_eq_true rfl) dX8_choice_28 ⟨Nat.zero_le _, Nat.zero_le _⟩ ?_
    refine lv_if_ne (tgt := 37) hx hb dX8_choice_31 (by decide) (fun c_3 => ?_) (fun c_3 => ?_)
    · skip
      have c_3 := zb_ne0 c_3
      refine lv_aload_n hx hb dX8_choice_37 rfl (lv_at hl 0 rfl) ?_
      refine va_get (D := D) (ci := 8) (v := .ref (a 10)) (C := RX8) (T := TX8) (N := 5) hx hb hts hin8 hown hK.1 hP 0 rfl rfl 1 (by decide) (hts _ fl_X8_31) (fun _ h9 => h9) rfl dX8_choice_38 ?_
      refine lv_iload hx hb dX8_choice_41 (lv_at hl 5 rfl) ?_
      refine ro_V (As := [.int (nI k)]) (rest := []) ⟨hx, hb, hml, hown, hts⟩ (c_X6_kindOf l D cI cZ a S sb q hS24 (nI k)) (cw_X8_45 hts rfl rfl ⟨Nat.le_of_ble_eq_true rfl, Nat.le_of_ble_eq_true rfl⟩) hK (hP.sub [3, 4, 5, 6, 7, 8, 9, 10, 11, 12, 13, 14, 15, 16, 17] rfl) (ci := 6) rfl rfl rfl hl.1 rfl (Nat.le_of_ble_eq_true rfl) dX8_choice_43 ⟨Nat.zero_le _, Nat.zero_le _⟩ ?_
      rw [rg_in hlt (show S_n S < 2 ^ 31 by have := hS24; omega)]
      refine lv_istore (lv' := [(6, .int (S_k S k)), (0, .ref (a 25)), (1, .int x), (2, .int k2), (3, .int (jPt S sb q N x k2 k)), (4, .int (jBr S sb q N x k2 k)), (5, .int (nI k))]) hx hb dX8_choice_46 hl (by decide) rfl (fun ls hl => ?_)
      refine lv_aload_n hx hb dX8_choice_48 rfl (lv_at hl 1 rfl) ?_
      refine va_get (D := D) (ci := 8) (v := .ref (a 10)) (C := RX8) (T := TX8) (N := 5) hx hb hts hin8 hown hK.1 hP 0 rfl rfl 1 (by decide) (hts _ fl_X8_31) (fun _ h9 => h9) rfl dX8_choice_49 ?_
      refine lv_iload hx hb dX8_choice_52 (lv_at hl 6 rfl) ?_
      refine ro_V (As := [.int (nI k)]) (rest := []) ⟨hx, hb, hml, hown, hts⟩ (c_X6_valueOf l D cI cZ a S sb q hS24 (nI k)) (cw_X8_49 hts rfl rfl ⟨Nat.le_of_ble_eq_true rfl, Nat.le_of_ble_eq_true rfl⟩) hK (hP.sub [3, 4, 5, 6, 7, 8, 9, 10, 11, 12, 13, 14, 15, 16, 17] rfl) (ci := 6) rfl rfl rfl hl.1 rfl (Nat.le_of_ble_eq_true rfl) dX8_choice_54 ⟨Nat.zero_le _, Nat.zero_le _⟩ ?_
      rw [rg_in hlt (show S_n S < 2 ^ 31 by have := hS24; omega)]
      refine lv_istore (lv' := [(7, .int (S_v S k)), (6, .int (S_k S k)), (0, .ref (a 25)), (1, .int x), (2, .int k2), (3, .int (jPt S sb q N x k2 k)), (4, .int (jBr S sb q N x k2 k)), (5, .int (nI k))]) hx hb dX8_choice_57 hl (by decide) rfl (fun ls hl => ?_)
      refine lv_iload hx hb dX8_choice_59 (lv_at hl 1 rfl) ?_
      refine lv_iconst (v := 2) hx hb dX8_choice_61 (by decide) ?_
      refine lv_icmp_ne (tgt := 73) hx hb dX8_choice_62 (by decide) (fun c_4 => ?_) (fun c_4 => ?_)
      · skip
        refine lv_iload hx hb dX8_choice_73 (lv_at hl 1 rfl) ?_
        refine lv_if_ne (tgt := 83) hx hb dX8_choice_75 (by decide) (fun c_5 => ?_) (fun c_5 => ?_)
        · skip
          refine lv_iload_n hx hb dX8_choice_83 rfl (lv_at hl 5 rfl) ?_
          refine lv_istore_n (lv' := [(3, .int (jPt S sb q N x k2 k)), (7, .int (S_v S k)), (6, .int (S_k S k)), (0, .ref (a 25)), (1, .int x), (2, .int k2), (4, .int (jBr S sb q N x k2 k)), (5, .int (nI k))]) hx hb dX8_choice_84 rfl hl (by decide) rfl (fun ls hl => ?_)
          refine lv_iload hx hb dX8_choice_85 (lv_at hl 6 rfl) ?_
          refine lv_iload hx hb dX8_choice_87 (lv_at hl 2 rfl) ?_
          refine lv_iconst (v := 1) hx hb dX8_choice_89 (by decide) ?_
          refine lv_icmp_ne (tgt := 101) hx hb dX8_choice_90 (by decide) (fun c_6 => ?_) (fun c_6 => ?_)
          · skip
            refine lv_iconst (v := 0) hx hb dX8_choice_101 (by decide) ?_
            refine lv_ior hx hb dX8_choice_102 ?_
            refine lv_istore (lv' := [(4, .int ((jBr S sb q N x k2 k) ||| 0)), (3, .int (jPt S sb q N x k2 k)), (7, .int (S_v S k)), (6, .int (S_k S k)), (0, .ref (a 25)), (1, .int x), (2, .int k2), (5, .int (nI k))]) hx hb dX8_choice_103 hl (by decide) rfl (fun ls hl => ?_)
            have hl : lv_has ls 8 [(4, .int (jBr S sb q N x k2 (k + 1))), (3, .int (jPt S sb q N x k2 (k + 1))), (7, .int (S_v S k)), (6, .int (S_k S k)), (0, .ref (a 25)), (1, .int x), (2, .int k2), (5, .int (nI k))] := by rw [show jPt S sb q N x k2 (k + 1) = (jPt S sb q N x k2 k) from by rw [jPt]; simp [c_3, c_4, c_5, c_6], show jBr S sb q N x k2 (k + 1) = ((jBr S sb q N x k2 k) ||| 0) from by rw [jBr]; simp [c_3, c_4, c_5, c_6]]; exact hl
            refine lv_iinc (v := (nI (k + 1))) (lv' := [(5, .int (nI (k + 1))), (4, .int (jBr S sb q N x k2 (k + 1))), (3, .int (jPt S sb q N x k2 (k + 1))), (7, .int (S_v S k)), (6, .int (S_k S k)), (0, .ref (a 25)), (1, .int x), (2, .int k2)]) hx hb dX8_choice_105 hl (k := 7) rfl (nI_add k 1) (by decide) rfl (fun ls hl => ?_)
            refine lv_goto (tgt := 8) hx hb dX8_choice_108 (by decide) ?_
            exact ih_8 (k + 1) ls (show (k + 1) ≤ S_n S ∧ jCm S sb q N x k2 (k + 1) = false from ⟨hlt, by rw [jCm, hI.2, Bool.false_or, decide_eq_false_iff_not]; simp [c_3, c_4, c_5, c_6]⟩) (show S_n S - (k + 1) < S_n S - k from by omega) (show lv_has ls 8 [(0, .ref (a 25)), (1, .int x), (2, .int k2), (3, .int (jPt S sb q N x k2 (k + 1))), (4, .int (jBr S sb q N x k2 (k + 1))), (5, .int (nI (k + 1)))] from lv_sub hl [5, 6, 7, 2, 1, 0] rfl)
          · skip
            refine lv_iload hx hb dX8_choice_93 (lv_at hl 1 rfl) ?_
            refine ro_SN (As := [.int (S_v S k)]) (rest := [.int (jBr S sb q N x k2 k)]) ⟨hx, hb, hml, hown, hts⟩ (c_X9_bitOf l D cI cZ  (S_v S k)) (cw_X8_52 hts rfl rfl hK ⟨Nat.le_of_ble_eq_true rfl, Nat.le_of_ble_eq_true rfl⟩) hK P_nil rfl hl.1 rfl (Nat.le_of_ble_eq_true rfl) dX8_choice_95 ⟨Nat.zero_le _, Nat.zero_le _⟩ ?_
            refine lv_goto (tgt := 102) hx hb dX8_choice_98 (by decide) ?_
            refine lv_ior hx hb dX8_choice_102 ?_
            refine lv_istore (lv' := [(4, .int ((jBr S sb q N x k2 k) ||| (zbt (S_v S k)))), (3, .int (jPt S sb q N x k2 k)), (7, .int (S_v S k)), (6, .int (S_k S k)), (0, .ref (a 25)), (1, .int x), (2, .int k2), (5, .int (nI k))]) hx hb dX8_choice_103 hl (by decide) rfl (fun ls hl => ?_)
            have hl : lv_has ls 8 [(4, .int (jBr S sb q N x k2 (k + 1))), (3, .int (jPt S sb q N x k2 (k + 1))), (7, .int (S_v S k)), (6, .int (S_k S k)), (0, .ref (a 25)), (1, .int x), (2, .int k2), (5, .int (nI k))] := by rw [show jPt S sb q N x k2 (k + 1) = (jPt S sb q N x k2 k) from by rw [jPt]; simp [c_3, c_4, c_5, c_6], show jBr S sb q N x k2 (k + 1) = ((jBr S sb q N x k2 k) ||| (zbt (S_v S k))) from by rw [jBr]; simp [c_3, c_4, c_5, c_6]]; exact hl
            refine lv_iinc (v := (nI (k + 1))) (lv' := [(5, .int (nI (k + 1))), (4, .int (jBr S sb q N x k2 (k + 1))), (3, .int (jPt S sb q N x k2 (k + 1))), (7, .int (S_v S k)), (6, .int (S_k S k)), (0, .ref (a 25)), (1, .int x), (2, .int k2)]) hx hb dX8_choice_105 hl (k := 7) rfl (nI_add k 1) (by decide) rfl (fun ls hl => ?_)
            refine lv_goto (tgt := 8) hx hb dX8_choice_108 (by decide) ?_
            exact ih_8 (k + 1) ls (show (k + 1) ≤ S_n S ∧ jCm S sb q N x k2 (k + 1) = false from ⟨hlt, by rw [jCm, hI.2, Bool.false_or, decide_eq_false_iff_not]; simp [c_3, c_4, c_5, c_6]⟩) (show S_n S - (k + 1) < S_n S - k from by omega) (show lv_has ls 8 [(0, .ref (a 25)), (1, .int x), (2, .int k2), (3, .int (jPt S sb q N x k2 (k + 1))), (4, .int (jBr S sb q N x k2 (k + 1))), (5, .int (nI (k + 1)))] from lv_sub hl [5, 6, 7, 2, 1, 0] rfl)
        · skip
          refine lv_iload hx hb dX8_choice_78 (lv_at hl 0 rfl) ?_
          refine lv_goto (tgt := 84) hx hb dX8_choice_80 (by decide) ?_
          refine lv_istore_n (lv' := [(3, .int (S_v S k)), (7, .int (S_v S k)), (6, .int (S_k S k)), (0, .ref (a 25)), (1, .int x), (2, .int k2), (4, .int (jBr S sb q N x k2 k)), (5, .int (nI k))]) hx hb dX8_choice_84 rfl hl (by decide) rfl (fun ls hl => ?_)
          refine lv_iload hx hb dX8_choice_85 (lv_at hl 6 rfl) ?_
          refine lv_iload hx hb dX8_choice_87 (lv_at hl 2 rfl) ?_
          refine lv_iconst (v := 1) hx hb dX8_choice_89 (by decide) ?_
          refine lv_icmp_ne (tgt := 101) hx hb dX8_choice_90 (by decide) (fun c_7 => ?_) (fun c_7 => ?_)
          · skip
            refine lv_iconst (v := 0) hx hb dX8_choice_101 (by decide) ?_
            refine lv_ior hx hb dX8_choice_102 ?_
            refine lv_istore (lv' := [(4, .int ((jBr S sb q N x k2 k) ||| 0)), (3, .int (S_v S k)), (7, .int (S_v S k)), (6, .int (S_k S k)), (0, .ref (a 25)), (1, .int x), (2, .int k2), (5, .int (nI k))]) hx hb dX8_choice_103 hl (by decide) rfl (fun ls hl => ?_)
            have hl : lv_has ls 8 [(4, .int (jBr S sb q N x k2 (k + 1))), (3, .int (jPt S sb q N x k2 (k + 1))), (7, .int (S_v S k)), (6, .int (S_k S k)), (0, .ref (a 25)), (1, .int x), (2, .int k2), (5, .int (nI k))] := by rw [show jPt S sb q N x k2 (k + 1) = (S_v S k) from by rw [jPt]; simp [c_3, c_4, c_5, c_7], show jBr S sb q N x k2 (k + 1) = ((jBr S sb q N x k2 k) ||| 0) from by rw [jBr]; simp [c_3, c_4, c_5, c_7]]; exact hl
            refine lv_iinc (v := (nI (k + 1))) (lv' := [(5, .int (nI (k + 1))), (4, .int (jBr S sb q N x k2 (k + 1))), (3, .int (jPt S sb q N x k2 (k + 1))), (7, .int (S_v S k)), (6, .int (S_k S k)), (0, .ref (a 25)), (1, .int x), (2, .int k2)]) hx hb dX8_choice_105 hl (k := 7) rfl (nI_add k 1) (by decide) rfl (fun ls hl => ?_)
            refine lv_goto (tgt := 8) hx hb dX8_choice_108 (by decide) ?_
            exact ih_8 (k + 1) ls (show (k + 1) ≤ S_n S ∧ jCm S sb q N x k2 (k + 1) = false from ⟨hlt, by rw [jCm, hI.2, Bool.false_or, decide_eq_false_iff_not]; simp [c_3, c_4, c_5, c_7]⟩) (show S_n S - (k + 1) < S_n S - k from by omega) (show lv_has ls 8 [(0, .ref (a 25)), (1, .int x), (2, .int k2), (3, .int (jPt S sb q N x k2 (k + 1))), (4, .int (jBr S sb q N x k2 (k + 1))), (5, .int (nI (k + 1)))] from lv_sub hl [5, 6, 7, 2, 1, 0] rfl)
          · skip
            exact absurd (c_5.symm.trans c_7) (by decide)
      · skip
        refine lv_iload hx hb dX8_choice_65 (lv_at hl 0 rfl) ?_
        refine lv_if_ne (tgt := 73) hx hb dX8_choice_67 (by decide) (fun c_8 => ?_) (fun c_8 => ?_)
        · skip
          refine lv_iload hx hb dX8_choice_73 (lv_at hl 1 rfl) ?_
          refine lv_if_ne (tgt := 83) hx hb dX8_choice_75 (by decide) (fun c_9 => ?_) (fun c_9 => ?_)
          · skip
            refine lv_iload_n hx hb dX8_choice_83 rfl (lv_at hl 5 rfl) ?_
            refine lv_istore_n (lv' := [(3, .int (jPt S sb q N x k2 k)), (7, .int (S_v S k)), (6, .int (S_k S k)), (0, .ref (a 25)), (1, .int x), (2, .int k2), (4, .int (jBr S sb q N x k2 k)), (5, .int (nI k))]) hx hb dX8_choice_84 rfl hl (by decide) rfl (fun ls hl => ?_)
            refine lv_iload hx hb dX8_choice_85 (lv_at hl 6 rfl) ?_
            refine lv_iload hx hb dX8_choice_87 (lv_at hl 2 rfl) ?_
            refine lv_iconst (v := 1) hx hb dX8_choice_89 (by decide) ?_
            refine lv_icmp_ne (tgt := 101) hx hb dX8_choice_90 (by decide) (fun c_10 => ?_) (fun c_10 => ?_)
            · skip
              refine lv_iconst (v := 0) hx hb dX8_choice_101 (by decide) ?_
              refine lv_ior hx hb dX8_choice_102 ?_
              refine lv_istore (lv' := [(4, .int ((jBr S sb q N x k2 k) ||| 0)), (3, .int (jPt S sb q N x k2 k)), (7, .int (S_v S k)), (6, .int (S_k S k)), (0, .ref (a 25)), (1, .int x), (2, .int k2), (5, .int (nI k))]) hx hb dX8_choice_103 hl (by decide) rfl (fun ls hl => ?_)
              have hl : lv_has ls 8 [(4, .int (jBr S sb q N x k2 (k + 1))), (3, .int (jPt S sb q N x k2 (k + 1))), (7, .int (S_v S k)), (6, .int (S_k S k)), (0, .ref (a 25)), (1, .int x), (2, .int k2), (5, .int (nI k))] := by rw [show jPt S sb q N x k2 (k + 1) = (jPt S sb q N x k2 k) from by rw [jPt]; simp [c_3, c_4, c_8, c_9, c_10], show jBr S sb q N x k2 (k + 1) = ((jBr S sb q N x k2 k) ||| 0) from by rw [jBr]; simp [c_3, c_4, c_8, c_9, c_10]]; exact hl
              refine lv_iinc (v := (nI (k + 1))) (lv' := [(5, .int (nI (k + 1))), (4, .int (jBr S sb q N x k2 (k + 1))), (3, .int (jPt S sb q N x k2 (k + 1))), (7, .int (S_v S k)), (6, .int (S_k S k)), (0, .ref (a 25)), (1, .int x), (2, .int k2)]) hx hb dX8_choice_105 hl (k := 7) rfl (nI_add k 1) (by decide) rfl (fun ls hl => ?_)
              refine lv_goto (tgt := 8) hx hb dX8_choice_108 (by decide) ?_
              exact ih_8 (k + 1) ls (show (k + 1) ≤ S_n S ∧ jCm S sb q N x k2 (k + 1) = false from ⟨hlt, by rw [jCm, hI.2, Bool.false_or, decide_eq_false_iff_not]; simp [c_3, c_4, c_8, c_9, c_10]⟩) (show S_n S - (k + 1) < S_n S - k from by omega) (show lv_has ls 8 [(0, .ref (a 25)), (1, .int x), (2, .int k2), (3, .int (jPt S sb q N x k2 (k + 1))), (4, .int (jBr S sb q N x k2 (k + 1))), (5, .int (nI (k + 1)))] from lv_sub hl [5, 6, 7, 2, 1, 0] rfl)
            · skip
              exact absurd (c_4.symm.trans c_10) (by decide)
          · skip
            exact absurd (c_4.symm.trans c_9) (by decide)
        · skip
          refine lv_bipush (v := (-3)) hx hb dX8_choice_70 (by decide) ?_
          exact ro_iret hx hb hr hlocks (by unfold jCh; rw [if_pos (by have h := jCm_mono (S_n S - (k + 1)) (k + 1) (show jCm S sb q N x k2 (k + 1) = true by rw [jCm]; simp [c_3, c_4, c_8]); rw [show k + 1 + (S_n S - (k + 1)) = S_n S by omega] at h; exact h)]) dX8_choice_72
    · skip
      have c_3 := zb_eq0 c_3
      refine lv_goto (tgt := 105) hx hb dX8_choice_34 (by decide) ?_
      have hl : lv_has ls 8 [(0, .ref (a 25)), (1, .int x), (2, .int k2), (3, .int (jPt S sb q N x k2 (k + 1))), (4, .int (jBr S sb q N x k2 (k + 1))), (5, .int (nI k))] := by rw [show jPt S sb q N x k2 (k + 1) = (jPt S sb q N x k2 k) from by rw [jPt]; simp [c_3], show jBr S sb q N x k2 (k + 1) = (jBr S sb q N x k2 k) from by rw [jBr]; simp [c_3]]; exact hl
      refine lv_iinc (v := (nI (k + 1))) (lv' := [(5, .int (nI (k + 1))), (0, .ref (a 25)), (1, .int x), (2, .int k2), (3, .int (jPt S sb q N x k2 (k + 1))), (4, .int (jBr S sb q N x k2 (k + 1)))]) hx hb dX8_choice_105 hl (k := 5) rfl (nI_add k 1) (by decide) rfl (fun ls hl => ?_)
      refine lv_goto (tgt := 8) hx hb dX8_choice_108 (by decide) ?_
      exact ih_8 (k + 1) ls (show (k + 1) ≤ S_n S ∧ jCm S sb q N x k2 (k + 1) = false from ⟨hlt, by rw [jCm, hI.2, Bool.false_or, decide_eq_false_iff_not]; simp [c_3]⟩) (show S_n S - (k + 1) < S_n S - k from by omega) (show lv_has ls 8 [(0, .ref (a 25)), (1, .int x), (2, .int k2), (3, .int (jPt S sb q N x k2 (k + 1))), (4, .int (jBr S sb q N x k2 (k + 1))), (5, .int (nI (k + 1)))] from lv_sub hl [1, 2, 3, 4, 5, 0] rfl)

def jWt (w : Nat × (Nat → Int32) × Int32 × Int32) (x : Int32) : Int32 := if x = 0 then w.2.2.1 else if x = 1 then rg w.1 w.2.1 (nI w.1 - 1) else if x = 2 then nI w.1 - 1 else w.2.2.2
set_option maxHeartbeats 4000000 in
set_option maxRecDepth 100000 in
theorem c_X8_tell (l : Launch) (D : va_G) (cI cZ : ClassId) (a : Nat → Nat) (w : Nat × (Nat → Int32) × Int32 × Int32) (hw : w.1 ≤ 31) (x : Int32) : RO l D cI cZ yX8_tell wyX8_tell ({ frames := 1, cells := 0, slots := 0, locals := 21 } : Room) [.ref (a 25), .int x] (wWk a cI w) (jWt w x) := by
  refine Met.ofW (cc := cX8_tell) (maxL := 2) (ret := (some .int)) (by decide) rfl ?_
  intro p e s m args below meth c s₁ B hml hv
  obtain ⟨rfl, hK, hP⟩ := hv
  have hx := B.exec
  have hb := B.bytes
  have hr := B.returns
  have hts0 := atoms_spec (ws := wyX8_tell) B.pre
  have hts : ∀ w ∈ big, w.before _ s = true := fun w h => hts0 w (List.mem_cons_of_mem _ h)
  have hown : s.vm.findClass RX8 = some m.cls := findClass_of_methodNamed B.named
  have hlocks := B.notSynchronized
  have hl := lv_entry ([.ref (a 25), .int x]) (n := 2) (Nat.le_of_ble_eq_true rfl)
  rw [lg_entry_eq]
  generalize (lg_sl ([.ref (a 25), .int x]) ++ List.replicate (2 - (lg_sl ([.ref (a 25), .int x])).length) Slot.unset).toArray = ls at hl ⊢
  have hl : lv_has ls 2 [(0, .ref (a 25)), (1, .int x)] := hl
  refine lv_iload_n hx hb dX8_tell_0 rfl (lv_at hl 1 rfl) ?_
  by_cases c_1_0 : x = 0
  · skip
    refine lv_tableIn (off := 27) (tgt := 28) hx hb dX8_tell_1 (by rw [c_1_0]; decide) (by rw [c_1_0]; decide) (by rw [c_1_0]; decide) (by decide) ?_
    refine lv_aload_n hx hb dX8_tell_28 rfl (lv_at hl 0 rfl) ?_
    refine va_get (D := D) (ci := 8) (v := .int w.2.2.1) (C := RX8) (T := TX8) (N := 5) hx hb hts hin8 hown hK.1 hP 0 rfl rfl 3 (by decide) (hts _ fl_X8_20) (fun _ h9 => h9) rfl dX8_tell_29 ?_
    exact ro_iret hx hb hr hlocks (by unfold jWt; simp [c_1_0]) dX8_tell_32
  by_cases c_1_1 : x = 1
  · skip
    refine lv_tableIn (off := 32) (tgt := 33) hx hb dX8_tell_1 (by rw [c_1_1]; decide) (by rw [c_1_1]; decide) (by rw [c_1_1]; decide) (by decide) ?_
    refine lv_aload_n hx hb dX8_tell_33 rfl (lv_at hl 0 rfl) ?_
    refine va_get (D := D) (ci := 8) (v := .ref (a 26)) (C := RX8) (T := TX8) (N := 5) hx hb hts hin8 hown hK.1 hP 0 rfl rfl 2 (by decide) (hts _ fl_X8_16) (fun _ h9 => h9) rfl dX8_tell_34 ?_
    refine lv_aload_n hx hb dX8_tell_37 rfl (lv_at hl 0 rfl) ?_
    refine va_get (D := D) (ci := 8) (v := .ref (a 26)) (C := RX8) (T := TX8) (N := 5) hx hb hts hin8 hown hK.1 hP 0 rfl rfl 2 (by decide) (hts _ fl_X8_16) (fun _ h9 => h9) rfl dX8_tell_38 ?_
    refine ro_V (As := []) (rest := [.ref (a 26)]) ⟨hx, hb, hml, hown, hts⟩ (c_X5_size l D cI cZ (a 26) (a 27) 31 (w.1) (w.2.1) hw (by decide)) (cw_X8_87 hts rfl rfl ⟨Nat.le_of_ble_eq_true rfl, Nat.le_of_ble_eq_true rfl⟩) hK (hP.sub [1, 2] rfl) (ci := 5) rfl rfl rfl hl.1 rfl (Nat.le_of_ble_eq_true rfl) dX8_tell_41 ⟨Nat.zero_le _, Nat.zero_le _⟩ ?_
    refine lv_iconst (v := 1) hx hb dX8_tell_44 (by decide) ?_
    refine lv_isub hx hb dX8_tell_45 ?_
    refine ro_V (As := [.int ((nI (w.1)) - 1)]) (rest := []) ⟨hx, hb, hml, hown, hts⟩ (c_X5_get l D cI cZ (a 26) (a 27) 31 (w.1) (w.2.1) hw (by decide) ((nI (w.1)) - 1)) (cw_X8_90 hts rfl rfl ⟨Nat.le_of_ble_eq_true rfl, Nat.le_of_ble_eq_true rfl⟩) hK (hP.sub [1, 2] rfl) (ci := 5) rfl rfl rfl hl.1 rfl (Nat.le_of_ble_eq_true rfl) dX8_tell_46 ⟨Nat.zero_le _, Nat.zero_le _⟩ ?_
    exact ro_iret hx hb hr hlocks (by unfold jWt; simp [c_1_1, c_1_0]) dX8_tell_49
  by_cases c_1_2 : x = 2
  · skip
    refine lv_tableIn (off := 49) (tgt := 50) hx hb dX8_tell_1 (by rw [c_1_2]; decide) (by rw [c_1_2]; decide) (by rw [c_1_2]; decide) (by decide) ?_
    refine lv_aload_n hx hb dX8_tell_50 rfl (lv_at hl 0 rfl) ?_
    refine va_get (D := D) (ci := 8) (v := .ref (a 26)) (C := RX8) (T := TX8) (N := 5) hx hb hts hin8 hown hK.1 hP 0 rfl rfl 2 (by decide) (hts _ fl_X8_16) (fun _ h9 => h9) rfl dX8_tell_51 ?_
    refine ro_V (As := []) (rest := []) ⟨hx, hb, hml, hown, hts⟩ (c_X5_size l D cI cZ (a 26) (a 27) 31 (w.1) (w.2.1) hw (by decide)) (cw_X8_87 hts rfl rfl ⟨Nat.le_of_ble_eq_true rfl, Nat.le_of_ble_eq_true rfl⟩) hK (hP.sub [1, 2] rfl) (ci := 5) rfl rfl rfl hl.1 rfl (Nat.le_of_ble_eq_true rfl) dX8_tell_54 ⟨Nat.zero_le _, Nat.zero_le _⟩ ?_
    refine lv_iconst (v := 1) hx hb dX8_tell_57 (by decide) ?_
    refine lv_isub hx hb dX8_tell_58 ?_
    exact ro_iret hx hb hr hlocks (by unfold jWt; simp [c_1_2, c_1_0, c_1_1]) dX8_tell_59
  refine lv_tableOut (tgt := 60) hx hb dX8_tell_1 (zt_out02 x c_1_0 c_1_1 c_1_2) (by decide) ?_
  refine lv_aload_n hx hb dX8_tell_60 rfl (lv_at hl 0 rfl) ?_
  refine va_get (D := D) (ci := 8) (v := .int w.2.2.2) (C := RX8) (T := TX8) (N := 5) hx hb hts hin8 hown hK.1 hP 0 rfl rfl 4 (by decide) (hts _ fl_X8_24) (fun _ h9 => h9) rfl dX8_tell_61 ?_
  exact ro_iret hx hb hr hlocks (by unfold jWt; simp [c_1_0, c_1_1, c_1_2]) dX8_tell_64

set_option maxHeartbeats 4000000 in
set_option maxRecDepth 100000 in
theorem c_X8_placeBehind (l : Launch) (D : va_G) (cI cZ : ClassId) (a : Nat → Nat) (w : Nat × (Nat → Int32) × Int32 × Int32) (hw : w.1 ≤ 31) (i : Int32) : RO l D cI cZ yX8_placeBehind wyX8_placeBehind ({ frames := 1, cells := 0, slots := 0, locals := 21 } : Room) [.ref (a 25), .int i] (wWk a cI w) (rg w.1 w.2.1 i) := by
  refine Met.ofW (cc := cX8_placeBehind) (maxL := 2) (ret := (some .int)) (by decide) rfl ?_
  intro p e s m args below meth c s₁ B hml hv
  obtain ⟨rfl, hK, hP⟩ := hv
  have hx := B.exec
  have hb := B.bytes
  have hr := B.returns
  have hts0 := atoms_spec (ws := wyX8_placeBehind) B.pre
  have hts : ∀ w ∈ big, w.before _ s = true := fun w h => hts0 w (List.mem_cons_of_mem _ h)
  have hown : s.vm.findClass RX8 = some m.cls := findClass_of_methodNamed B.named
  have hlocks := B.notSynchronized
  have hl := lv_entry ([.ref (a 25), .int i]) (n := 2) (Nat.le_of_ble_eq_true rfl)
  rw [lg_entry_eq]
  generalize (lg_sl ([.ref (a 25), .int i]) ++ List.replicate (2 - (lg_sl ([.ref (a 25), .int i])).length) Slot.unset).toArray = ls at hl ⊢
  have hl : lv_has ls 2 [(0, .ref (a 25)), (1, .int i)] := hl
  refine lv_aload_n hx hb dX8_placeBehind_0 rfl (lv_at hl 0 rfl) ?_
  refine va_get (D := D) (ci := 8) (v := .ref (a 26)) (C := RX8) (T := TX8) (N := 5) hx hb hts hin8 hown hK.1 hP 0 rfl rfl 2 (by decide) (hts _ fl_X8_16) (fun _ h9 => h9) rfl dX8_placeBehind_1 ?_
  refine lv_iload_n hx hb dX8_placeBehind_4 rfl (lv_at hl 1 rfl) ?_
  refine ro_V (As := [.int i]) (rest := []) ⟨hx, hb, hml, hown, hts⟩ (c_X5_get l D cI cZ (a 26) (a 27) 31 (w.1) (w.2.1) hw (by decide) i) (cw_X8_90 hts rfl rfl ⟨Nat.le_of_ble_eq_true rfl, Nat.le_of_ble_eq_true rfl⟩) hK (hP.sub [1, 2] rfl) (ci := 5) rfl rfl rfl hl.1 rfl (Nat.le_of_ble_eq_true rfl) dX8_placeBehind_5 ⟨Nat.zero_le _, Nat.zero_le _⟩ ?_
  exact ro_iret hx hb hr hlocks (rfl) dX8_placeBehind_8

abbrev TG : Type := Int32 × Int32 × Int32 × (Nat → Int32) × Int32
def jGo (S : TS) (sb : Nat → Int32) (q : TQ) (N : TN) (pb : Nat → Int32) : Nat → Nat → TG → Nat × (Nat → Int32) × Int32 × Int32
  | 0, k, g => if jCh S sb q N pb g.1 g.2.1 < 0 then (k + 1, g.2.2.2.1, -1 - jCh S sb q N pb g.1 g.2.1, g.2.2.2.2) else (k + 1, g.2.2.2.1, 4, g.2.2.2.2)
  | n + 1, k, g => if jCh S sb q N pb g.1 g.2.1 < 0 then (k + 1, g.2.2.2.1, -1 - jCh S sb q N pb g.1 g.2.1, g.2.2.2.2) else
    if (g.2.2.1 &&& ((1 : Int32) <<< (jArc N g.1 (jCh S sb q N pb g.1 g.2.1) &&& 31))) = 0 then
    jGo S sb q N pb n (k + 1) (jEnd N (jArc N g.1 (jCh S sb q N pb g.1 g.2.1)), jCh S sb q N pb g.1 g.2.1, g.2.2.1 ||| ((1 : Int32) <<< (jArc N g.1 (jCh S sb q N pb g.1 g.2.1) &&& 31)), upd g.2.2.2.1 (k + 1) (jEnd N (jArc N g.1 (jCh S sb q N pb g.1 g.2.1))), g.2.2.2.2 + rg (N_n N) (N_l N) (jCh S sb q N pb g.1 g.2.1))
    else (k + 2, upd g.2.2.2.1 (k + 1) (jEnd N (jArc N g.1 (jCh S sb q N pb g.1 g.2.1))), 3, g.2.2.2.2 + rg (N_n N) (N_l N) (jCh S sb q N pb g.1 g.2.1))
def jWalk (S : TS) (sb : Nat → Int32) (q : TQ) (N : TN) (pb : Nat → Int32) (f : Nat → Int32) (x : Int32) : Nat × (Nat → Int32) × Int32 × Int32 := jGo S sb q N pb 30 0 (x, -1, 0, upd f 0 x, 0)
set_option maxHeartbeats 4000000 in
set_option maxRecDepth 100000 in
theorem c_X8_goFrom (l : Launch) (D : va_G) (cI cZ : ClassId) (a : Nat → Nat) (w : Nat × (Nat → Int32) × Int32 × Int32) (hw : w.1 ≤ 31) (S : TS) (sb : Nat → Int32) (q : TQ) (hS24 : S_n S ≤ 24) (N : TN) (pb : Nat → Int32) (hN16 : N_n N ≤ 16) (x : Int32) : MV l D cI cZ yX8_goFrom wyX8_goFrom ({ frames := 4, cells := 0, slots := 0, locals := 93 } : Room) [.ref (a 25), .int x] (wWk a cI w ++ wSg a cI S sb q ++ wNet a cI N pb) (fun _ => True) (fun (_ : Unit) => wWk a cI (jWalk S sb q N pb w.2.1 x) ++ (wSg a cI S sb q ++ wNet a cI N pb)) := by
  refine Met.ofW (cc := cX8_goFrom) (maxL := 8) (ret := none) (by decide) rfl ?_
  intro p e s m args below meth c s₁ B hml hv
  obtain ⟨rfl, hK, hP, hD0⟩ := hv
  have hx := B.exec
  have hb := B.bytes
  have hr := B.returns
  have hts0 := atoms_spec (ws := wyX8_goFrom) B.pre
  have hts : ∀ w ∈ big, w.before _ s = true := fun w h => hts0 w (List.mem_cons_of_mem _ h)
  have hown : s.vm.findClass RX8 = some m.cls := findClass_of_methodNamed B.named
  have hlocks := B.notSynchronized
  have hD := D_inW hD0
  have hS : va_S (inW (wWk a cI w ++ wSg a cI S sb q ++ wNet a cI N pb)) s.heap s.heap [] := va_S.rf
  have hl := lv_entry ([.ref (a 25), .int x]) (n := 8) (Nat.le_of_ble_eq_true rfl)
  rw [lg_entry_eq]
  generalize (lg_sl ([.ref (a 25), .int x]) ++ List.replicate (8 - (lg_sl ([.ref (a 25), .int x])).length) Slot.unset).toArray = ls at hl ⊢
  have hl : lv_has ls 8 [(0, .ref (a 25)), (1, .int x)] := hl
  refine lv_aload_n hx hb dX8_goFrom_0 rfl (lv_at hl 0 rfl) ?_
  refine va_get (D := D) (ci := 8) (v := .ref (a 26)) (C := RX8) (T := TX8) (N := 5) hx hb hts hin8 hown hK.1 hP 0 rfl rfl 2 (by decide) (hts _ fl_X8_16) (fun _ h9 => h9) rfl dX8_goFrom_1 ?_
  refine mi_V2 (As := []) (rest := []) ⟨hx, hb, hml, hown, hts⟩ (c_X5_clear l D cI cZ (a 26) (a 27) 31 (w.1) (w.2.1)) (cw_X8_69 hts rfl rfl ⟨Nat.le_of_ble_eq_true rfl, Nat.le_of_ble_eq_true rfl⟩) hK hP hD hS 27 rfl [1, 2] [0, 3, 4, 5, 6, 7, 8, 9, 10, 11, 12, 13, 14, 15, 16, 17, 18, 19, 20, 21, 22, 23, 24, 25, 26] (fun (_ : Unit) => wWk a cI (0, w.2.1, w.2.2.1, w.2.2.2) ++ wSg a cI S sb q ++ wNet a cI N pb) rfl (by decide) (fun u => rfl) [(a 26), (a 27)] rfl (fun u => rfl) ([((a 25), .inr (8, [.ref (a 1), .ref (a 10), .ref (a 26), .int w.2.2.1, .int w.2.2.2])), ((a 10), .inr (6, [.ref (a 1), .ref (a 11), .ref (a 13), .ref (a 15), .ref (a 17), .ref (a 19), .ref (a 21), .ref (a 23), .int q.1, .int q.2.1, .int q.2.2])), ((a 11), .inr (5, [.ref (a 12), .int (nI (S_n S))])), ((a 12), .inl (cI, (24, .inl (S_p S)))), ((a 13), .inr (5, [.ref (a 14), .int (nI (S_n S))])), ((a 14), .inl (cI, (24, .inl (S_k S)))), ((a 15), .inr (5, [.ref (a 16), .int (nI (S_n S))])), ((a 16), .inl (cI, (24, .inl (S_v S)))), ((a 17), .inr (5, [.ref (a 18), .int (nI (S_n S))])), ((a 18), .inl (cI, (24, .inl (S_f S)))), ((a 19), .inr (5, [.ref (a 20), .int (nI (S_n S))])), ((a 20), .inl (cI, (24, .inl (S_d S)))), ((a 21), .inr (5, [.ref (a 22), .int (nI (S_n S))])), ((a 22), .inl (cI, (24, .inl (S_u S)))), ((a 23), .inr (5, [.ref (a 24), .int (nI (S_n S))])), ((a 24), .inl (cI, (24, .inl sb))), ((a 1), .inr (2, [.ref (a 2), .ref (a 4), .ref (a 6), .ref (a 8)])), ((a 2), .inr (5, [.ref (a 3), .int (nI (N_n N))])), ((a 3), .inl (cI, (16, .inl (N_a N)))), ((a 4), .inr (5, [.ref (a 5), .int (nI (N_n N))])), ((a 5), .inl (cI, (16, .inl (N_b N)))), ((a 6), .inr (5, [.ref (a 7), .int (nI (N_n N))])), ((a 7), .inl (cI, (16, .inl (N_l N)))), ((a 8), .inr (5, [.ref (a 9), .int (nI 10)])), ((a 9), .inl (cI, (10, .inl pb)))] : va_W) rfl (fun u => rfl) [(a 25), (a 26), (a 27), (a 10), (a 11), (a 12), (a 13), (a 14), (a 15), (a 16), (a 17), (a 18), (a 19), (a 20), (a 21), (a 22), (a 23), (a 24), (a 1), (a 2), (a 3), (a 4), (a 5), (a 6), (a 7), (a 8), (a 9)] rfl (fun u => rfl) (by decide) (by decide) (by decide) (ci := 5) rfl rfl rfl hl.1 rfl (Nat.le_of_ble_eq_true rfl) dX8_goFrom_4 ⟨Nat.zero_le _, Nat.zero_le _⟩ (fun r u H locs hp hP hD hS => ?_)
  have hp : r = nI (w.1) := hp
  subst hp
  have hP : va_P D vwCl (wWk a cI (0, w.2.1, w.2.2.1, w.2.2.2) ++ wSg a cI S sb q ++ wNet a cI N pb) H := hP
  have hD : va_D _ (wWk a cI (0, w.2.1, w.2.2.1, w.2.2.2) ++ wSg a cI S sb q ++ wNet a cI N pb) := hD
  refine lv_pop hx hb dX8_goFrom_7 rfl ?_
  refine lv_aload_n hx hb dX8_goFrom_8 rfl (lv_at hl 0 rfl) ?_
  refine va_get (D := D) (ci := 8) (v := .ref (a 26)) (C := RX8) (T := TX8) (N := 5) hx hb hts hin8 hown hK.1 hP 0 rfl rfl 2 (by decide) (hts _ fl_X8_16) (fun _ h9 => h9) rfl dX8_goFrom_9 ?_
  refine lv_iload_n hx hb dX8_goFrom_12 rfl (lv_at hl 1 rfl) ?_
  refine mi_V2 (As := [.int x]) (rest := []) ⟨hx, hb, hml, hown, hts⟩ (c_X5_push l D cI cZ (a 26) (a 27) 31 0 w.2.1 (by omega) (by decide) x) (cw_X8_72 hts rfl rfl ⟨Nat.le_of_ble_eq_true rfl, Nat.le_of_ble_eq_true rfl⟩) hK hP hD hS 27 rfl [1, 2] [0, 3, 4, 5, 6, 7, 8, 9, 10, 11, 12, 13, 14, 15, 16, 17, 18, 19, 20, 21, 22, 23, 24, 25, 26] (fun (_ : Unit) => wWk a cI ((0 + 1), (upd w.2.1 0 x), w.2.2.1, w.2.2.2) ++ wSg a cI S sb q ++ wNet a cI N pb) rfl (by decide) (fun u => rfl) [(a 26), (a 27)] rfl (fun u => rfl) ([((a 25), .inr (8, [.ref (a 1), .ref (a 10), .ref (a 26), .int w.2.2.1, .int w.2.2.2])), ((a 10), .inr (6, [.ref (a 1), .ref (a 11), .ref (a 13), .ref (a 15), .ref (a 17), .ref (a 19), .ref (a 21), .ref (a 23), .int q.1, .int q.2.1, .int q.2.2])), ((a 11), .inr (5, [.ref (a 12), .int (nI (S_n S))])), ((a 12), .inl (cI, (24, .inl (S_p S)))), ((a 13), .inr (5, [.ref (a 14), .int (nI (S_n S))])), ((a 14), .inl (cI, (24, .inl (S_k S)))), ((a 15), .inr (5, [.ref (a 16), .int (nI (S_n S))])), ((a 16), .inl (cI, (24, .inl (S_v S)))), ((a 17), .inr (5, [.ref (a 18), .int (nI (S_n S))])), ((a 18), .inl (cI, (24, .inl (S_f S)))), ((a 19), .inr (5, [.ref (a 20), .int (nI (S_n S))])), ((a 20), .inl (cI, (24, .inl (S_d S)))), ((a 21), .inr (5, [.ref (a 22), .int (nI (S_n S))])), ((a 22), .inl (cI, (24, .inl (S_u S)))), ((a 23), .inr (5, [.ref (a 24), .int (nI (S_n S))])), ((a 24), .inl (cI, (24, .inl sb))), ((a 1), .inr (2, [.ref (a 2), .ref (a 4), .ref (a 6), .ref (a 8)])), ((a 2), .inr (5, [.ref (a 3), .int (nI (N_n N))])), ((a 3), .inl (cI, (16, .inl (N_a N)))), ((a 4), .inr (5, [.ref (a 5), .int (nI (N_n N))])), ((a 5), .inl (cI, (16, .inl (N_b N)))), ((a 6), .inr (5, [.ref (a 7), .int (nI (N_n N))])), ((a 7), .inl (cI, (16, .inl (N_l N)))), ((a 8), .inr (5, [.ref (a 9), .int (nI 10)])), ((a 9), .inl (cI, (10, .inl pb)))] : va_W) rfl (fun u => rfl) [(a 25), (a 26), (a 27), (a 10), (a 11), (a 12), (a 13), (a 14), (a 15), (a 16), (a 17), (a 18), (a 19), (a 20), (a 21), (a 22), (a 23), (a 24), (a 1), (a 2), (a 3), (a 4), (a 5), (a 6), (a 7), (a 8), (a 9)] rfl (fun u => rfl) (by decide) (by decide) (by decide) (ci := 5) rfl rfl rfl hl.1 rfl (Nat.le_of_ble_eq_true rfl) dX8_goFrom_13 ⟨Nat.zero_le _, Nat.zero_le _⟩ (fun r u H locs hp hP hD hS => ?_)
  have hp : r = nI (0 + 1) := hp
  subst hp
  have hP : va_P D vwCl (wWk a cI ((0 + 1), (upd w.2.1 0 x), w.2.2.1, w.2.2.2) ++ wSg a cI S sb q ++ wNet a cI N pb) H := hP
  have hD : va_D _ (wWk a cI ((0 + 1), (upd w.2.1 0 x), w.2.2.1, w.2.2.2) ++ wSg a cI S sb q ++ wNet a cI N pb) := hD
  refine lv_pop hx hb dX8_goFrom_16 rfl ?_
  refine lv_aload_n hx hb dX8_goFrom_17 rfl (lv_at hl 0 rfl) ?_
  refine lv_iconst (v := 0) hx hb dX8_goFrom_18 (by decide) ?_
  refine va_put (D := D) (ci := 8) (v := .int 0) (ty := .int) (C := RX8) (T := TX8) (N := 5) hx hb hts hin8 tyX8 tyX8_ok nmX8 hown hK.1 hP hD hS 0 rfl rfl 4 (by decide) (hts _ fl_X8_24) (fun _ h9 => h9) rfl (by decide +kernel) rfl rfl (Nat.le_of_ble_eq_true rfl) dX8_goFrom_19 (fun H locs hP hD hS => ?_)
  have hP : va_P D vwCl (wWk a cI ((0 + 1), (upd w.2.1 0 x), w.2.2.1, 0) ++ wSg a cI S sb q ++ wNet a cI N pb) H := hP
  have hD : va_D _ (wWk a cI ((0 + 1), (upd w.2.1 0 x), w.2.2.1, 0) ++ wSg a cI S sb q ++ wNet a cI N pb) := hD
  refine lv_iload_n hx hb dX8_goFrom_22 rfl (lv_at hl 1 rfl) ?_
  refine lv_istore_n (lv' := [(2, .int x), (0, .ref (a 25)), (1, .int x)]) hx hb dX8_goFrom_23 rfl hl (by decide) rfl (fun ls hl => ?_)
  refine lv_iconst (v := (-1)) hx hb dX8_goFrom_24 (by decide) ?_
  refine lv_istore_n (lv' := [(3, .int (-1)), (2, .int x), (0, .ref (a 25)), (1, .int x)]) hx hb dX8_goFrom_25 rfl hl (by decide) rfl (fun ls hl => ?_)
  refine lv_iconst (v := 0) hx hb dX8_goFrom_26 (by decide) ?_
  refine lv_istore (lv' := [(4, .int 0), (3, .int (-1)), (2, .int x), (0, .ref (a 25)), (1, .int x)]) hx hb dX8_goFrom_27 hl (by decide) rfl (fun ls hl => ?_)
  refine lv_iconst (v := 0) hx hb dX8_goFrom_29 (by decide) ?_
  refine lv_istore (lv' := [(5, .int 0), (4, .int 0), (3, .int (-1)), (2, .int x), (0, .ref (a 25)), (1, .int x)]) hx hb dX8_goFrom_30 hl (by decide) rfl (fun ls hl => ?_)
  refine w_loopH (α := Nat × Int32 × Int32 × Int32 × (Nat → Int32) × Int32 × Int32) (fun a9 => a9.1 ≤ 30 ∧ jGo S sb q N pb (30 - a9.1) a9.1 (a9.2.1, a9.2.2.1, a9.2.2.2.1, a9.2.2.2.2.1, a9.2.2.2.2.2.2) = jWalk S sb q N pb w.2.1 x) (fun a9 => 31 - a9.1) (fun a9 => wWk a cI ((a9.1 + 1), a9.2.2.2.2.1, a9.2.2.2.2.2.1, a9.2.2.2.2.2.2) ++ wSg a cI S sb q ++ wNet a cI N pb) (fun a9 => [(0, .ref (a 25)), (2, .int a9.2.1), (3, .int a9.2.2.1), (4, .int a9.2.2.2.1), (5, .int (nI a9.1))]) 32 8 ?_ (0, x, (-1), 0, (upd w.2.1 0 x), w.2.2.1, 0) (⟨by omega, rfl⟩) (show lv_has ls 8 [(0, .ref (a 25)), (2, .int x), (3, .int (-1)), (4, .int 0), (5, .int (nI 0))] from lv_sub hl [4, 3, 2, 1, 0] rfl) hP hD hS
  intro a9 ls H locs hI hl hP hD hS ih_32
  obtain ⟨k, h, cm, ar, f, en, le⟩ := a9
  have hI : k ≤ 30 ∧ jGo S sb q N pb (30 - k) k (h, cm, ar, f, le) = jWalk S sb q N pb w.2.1 x := hI
  have hl : lv_has ls 8 [(0, .ref (a 25)), (2, .int h), (3, .int cm), (4, .int ar), (5, .int (nI k))] := hl
  have hP : va_P D vwCl (wWk a cI ((k + 1), f, en, le) ++ wSg a cI S sb q ++ wNet a cI N pb) H := hP
  have hD : va_D _ (wWk a cI ((k + 1), f, en, le) ++ wSg a cI S sb q ++ wNet a cI N pb) := hD
  refine lv_iload hx hb dX8_goFrom_32 (lv_at hl 4 rfl) ?_
  refine lv_bipush (v := 30) hx hb dX8_goFrom_34 (by decide) ?_
  refine lv_icmp_gt (tgt := 154) hx hb dX8_goFrom_36 (by decide) (fun c_1 => ?_) (fun c_1 => ?_)
  · skip
    exact absurd c_1 (by rw [Int32.not_lt, show (30 : Int32) = nI 30 from rfl, nI_leI (by omega) (by omega)]; exact hI.1)
  · skip
    refine lv_aload_n hx hb dX8_goFrom_39 rfl (lv_at hl 0 rfl) ?_
    refine lv_iload_n hx hb dX8_goFrom_40 rfl (lv_at hl 1 rfl) ?_
    refine lv_iload_n hx hb dX8_goFrom_41 rfl (lv_at hl 2 rfl) ?_
    refine ro_V (As := [.int h, .int cm]) (rest := []) ⟨hx, hb, hml, hown, hts⟩ (c_X8_choice l D cI cZ a ((k + 1), f, en, le) (show (k + 1) ≤ 31 by omega) S sb q hS24 N pb hN16 h cm) (cw_X8_75 hts rfl rfl ⟨Nat.le_of_ble_eq_true rfl, Nat.le_of_ble_eq_true rfl⟩) hK hP (ci := 8) rfl rfl rfl hl.1 rfl (Nat.le_of_ble_eq_true rfl) dX8_goFrom_42 ⟨Nat.zero_le _, Nat.zero_le _⟩ ?_
    refine lv_istore (lv' := [(6, .int (jCh S sb q N pb h cm)), (0, .ref (a 25)), (2, .int h), (3, .int cm), (4, .int ar), (5, .int (nI k))]) hx hb dX8_goFrom_45 hl (by decide) rfl (fun ls hl => ?_)
    refine lv_iload hx hb dX8_goFrom_47 (lv_at hl 0 rfl) ?_
    refine lv_if_ge (tgt := 61) hx hb dX8_goFrom_49 (by decide) (fun c_2 => ?_) (fun c_2 => ?_)
    · skip
      refine lv_iload hx hb dX8_goFrom_61 (lv_at hl 5 rfl) ?_
      refine lv_bipush (v := 30) hx hb dX8_goFrom_63 (by decide) ?_
      refine lv_icmp_ne (tgt := 71) hx hb dX8_goFrom_65 (by decide) (fun c_3 => ?_) (fun c_3 => ?_)
      · skip
        have hk30 : k < 30 := by have h9 : k ≠ 30 := fun q => c_3 (by rw [q]; rfl); omega
        refine lv_aload_n hx hb dX8_goFrom_71 rfl (lv_at hl 1 rfl) ?_
        refine va_get (D := D) (ci := 8) (v := .ref (a 1)) (C := RX8) (T := TX8) (N := 5) hx hb hts hin8 hown hK.1 hP 0 rfl rfl 0 (by decide) (hts _ fl_X8_27) (fun _ h9 => h9) rfl dX8_goFrom_72 ?_
        refine lv_iload_n hx hb dX8_goFrom_75 rfl (lv_at hl 2 rfl) ?_
        refine lv_iload hx hb dX8_goFrom_76 (lv_at hl 0 rfl) ?_
        refine ro_V (As := [.int h, .int (jCh S sb q N pb h cm)]) (rest := []) ⟨hx, hb, hml, hown, hts⟩ (c_X2_arcFrom l D cI cZ a N pb hN16 h (jCh S sb q N pb h cm)) (cw_X8_78 hts rfl rfl ⟨Nat.le_of_ble_eq_true rfl, Nat.le_of_ble_eq_true rfl⟩) hK (hP.sub [18, 19, 20, 21, 22, 23, 24, 25, 26] rfl) (ci := 2) rfl rfl rfl hl.1 rfl (Nat.le_of_ble_eq_true rfl) dX8_goFrom_78 ⟨Nat.zero_le _, Nat.zero_le _⟩ ?_
        refine lv_istore (lv' := [(7, .int (jArc N h (jCh S sb q N pb h cm))), (6, .int (jCh S sb q N pb h cm)), (0, .ref (a 25)), (2, .int h), (3, .int cm), (4, .int ar), (5, .int (nI k))]) hx hb dX8_goFrom_81 hl (by decide) rfl (fun ls hl => ?_)
        refine lv_aload_n hx hb dX8_goFrom_83 rfl (lv_at hl 2 rfl) ?_
        refine va_get (D := D) (ci := 8) (v := .ref (a 1)) (C := RX8) (T := TX8) (N := 5) hx hb hts hin8 hown hK.1 hP 0 rfl rfl 0 (by decide) (hts _ fl_X8_27) (fun _ h9 => h9) rfl dX8_goFrom_84 ?_
        refine lv_iload hx hb dX8_goFrom_87 (lv_at hl 0 rfl) ?_
        refine ro_V (As := [.int (jArc N h (jCh S sb q N pb h cm))]) (rest := []) ⟨hx, hb, hml, hown, hts⟩ (c_X2_endOf l D cI cZ a N pb hN16 (jArc N h (jCh S sb q N pb h cm))) (cw_X8_81 hts rfl rfl ⟨Nat.le_of_ble_eq_true rfl, Nat.le_of_ble_eq_true rfl⟩) hK (hP.sub [18, 19, 20, 21, 22, 23, 24, 25, 26] rfl) (ci := 2) rfl rfl rfl hl.1 rfl (Nat.le_of_ble_eq_true rfl) dX8_goFrom_89 ⟨Nat.zero_le _, Nat.zero_le _⟩ ?_
        refine lv_istore_n (lv' := [(2, .int (jEnd N (jArc N h (jCh S sb q N pb h cm)))), (7, .int (jArc N h (jCh S sb q N pb h cm))), (6, .int (jCh S sb q N pb h cm)), (0, .ref (a 25)), (3, .int cm), (4, .int ar), (5, .int (nI k))]) hx hb dX8_goFrom_92 rfl hl (by decide) rfl (fun ls hl => ?_)
        refine lv_iload hx hb dX8_goFrom_93 (lv_at hl 2 rfl) ?_
        refine lv_istore_n (lv' := [(3, .int (jCh S sb q N pb h cm)), (2, .int (jEnd N (jArc N h (jCh S sb q N pb h cm)))), (7, .int (jArc N h (jCh S sb q N pb h cm))), (6, .int (jCh S sb q N pb h cm)), (0, .ref (a 25)), (4, .int ar), (5, .int (nI k))]) hx hb dX8_goFrom_95 rfl hl (by decide) rfl (fun ls hl => ?_)
        refine lv_aload_n hx hb dX8_goFrom_96 rfl (lv_at hl 4 rfl) ?_
        refine va_get (D := D) (ci := 8) (v := .ref (a 26)) (C := RX8) (T := TX8) (N := 5) hx hb hts hin8 hown hK.1 hP 0 rfl rfl 2 (by decide) (hts _ fl_X8_16) (fun _ h9 => h9) rfl dX8_goFrom_97 ?_
        refine lv_iload_n hx hb dX8_goFrom_100 rfl (lv_at hl 1 rfl) ?_
        refine mi_V2 (As := [.int (jEnd N (jArc N h (jCh S sb q N pb h cm)))]) (rest := []) ⟨hx, hb, hml, hown, hts⟩ (c_X5_push l D cI cZ (a 26) (a 27) 31 (k + 1) f (by omega) (by decide) (jEnd N (jArc N h (jCh S sb q N pb h cm)))) (cw_X8_72 hts rfl rfl ⟨Nat.le_of_ble_eq_true rfl, Nat.le_of_ble_eq_true rfl⟩) hK hP hD hS 27 rfl [1, 2] [0, 3, 4, 5, 6, 7, 8, 9, 10, 11, 12, 13, 14, 15, 16, 17, 18, 19, 20, 21, 22, 23, 24, 25, 26] (fun (_ : Unit) => wWk a cI (((k + 1) + 1), (upd f (k + 1) (jEnd N (jArc N h (jCh S sb q N pb h cm)))), en, le) ++ wSg a cI S sb q ++ wNet a cI N pb) rfl (by decide) (fun u => rfl) [(a 26), (a 27)] rfl (fun u => rfl) ([((a 25), .inr (8, [.ref (a 1), .ref (a 10), .ref (a 26), .int en, .int le])), ((a 10), .inr (6, [.ref (a 1), .ref (a 11), .ref (a 13), .ref (a 15), .ref (a 17), .ref (a 19), .ref (a 21), .ref (a 23), .int q.1, .int q.2.1, .int q.2.2])), ((a 11), .inr (5, [.ref (a 12), .int (nI (S_n S))])), ((a 12), .inl (cI, (24, .inl (S_p S)))), ((a 13), .inr (5, [.ref (a 14), .int (nI (S_n S))])), ((a 14), .inl (cI, (24, .inl (S_k S)))), ((a 15), .inr (5, [.ref (a 16), .int (nI (S_n S))])), ((a 16), .inl (cI, (24, .inl (S_v S)))), ((a 17), .inr (5, [.ref (a 18), .int (nI (S_n S))])), ((a 18), .inl (cI, (24, .inl (S_f S)))), ((a 19), .inr (5, [.ref (a 20), .int (nI (S_n S))])), ((a 20), .inl (cI, (24, .inl (S_d S)))), ((a 21), .inr (5, [.ref (a 22), .int (nI (S_n S))])), ((a 22), .inl (cI, (24, .inl (S_u S)))), ((a 23), .inr (5, [.ref (a 24), .int (nI (S_n S))])), ((a 24), .inl (cI, (24, .inl sb))), ((a 1), .inr (2, [.ref (a 2), .ref (a 4), .ref (a 6), .ref (a 8)])), ((a 2), .inr (5, [.ref (a 3), .int (nI (N_n N))])), ((a 3), .inl (cI, (16, .inl (N_a N)))), ((a 4), .inr (5, [.ref (a 5), .int (nI (N_n N))])), ((a 5), .inl (cI, (16, .inl (N_b N)))), ((a 6), .inr (5, [.ref (a 7), .int (nI (N_n N))])), ((a 7), .inl (cI, (16, .inl (N_l N)))), ((a 8), .inr (5, [.ref (a 9), .int (nI 10)])), ((a 9), .inl (cI, (10, .inl pb)))] : va_W) rfl (fun u => rfl) [(a 25), (a 26), (a 27), (a 10), (a 11), (a 12), (a 13), (a 14), (a 15), (a 16), (a 17), (a 18), (a 19), (a 20), (a 21), (a 22), (a 23), (a 24), (a 1), (a 2), (a 3), (a 4), (a 5), (a 6), (a 7), (a 8), (a 9)] rfl (fun u => rfl) (by decide) (by decide) (by decide) (ci := 5) rfl rfl rfl hl.1 rfl (Nat.le_of_ble_eq_true rfl) dX8_goFrom_101 ⟨Nat.zero_le _, Nat.zero_le _⟩ (fun r u H locs hp hP hD hS => ?_)
        have hp : r = nI ((k + 1) + 1) := hp
        subst hp
        have hP : va_P D vwCl (wWk a cI (((k + 1) + 1), (upd f (k + 1) (jEnd N (jArc N h (jCh S sb q N pb h cm)))), en, le) ++ wSg a cI S sb q ++ wNet a cI N pb) H := hP
        have hD : va_D _ (wWk a cI (((k + 1) + 1), (upd f (k + 1) (jEnd N (jArc N h (jCh S sb q N pb h cm)))), en, le) ++ wSg a cI S sb q ++ wNet a cI N pb) := hD
        refine lv_pop hx hb dX8_goFrom_104 rfl ?_
        refine lv_aload_n hx hb dX8_goFrom_105 rfl (lv_at hl 4 rfl) ?_
        refine lv_dup hx hb dX8_goFrom_106 rfl ?_
        refine va_get (D := D) (ci := 8) (v := .int le) (C := RX8) (T := TX8) (N := 5) hx hb hts hin8 hown hK.1 hP 0 rfl rfl 4 (by decide) (hts _ fl_X8_24) (fun _ h9 => h9) rfl dX8_goFrom_107 ?_
        refine lv_aload_n hx hb dX8_goFrom_110 rfl (lv_at hl 4 rfl) ?_
        refine va_get (D := D) (ci := 8) (v := .ref (a 1)) (C := RX8) (T := TX8) (N := 5) hx hb hts hin8 hown hK.1 hP 0 rfl rfl 0 (by decide) (hts _ fl_X8_27) (fun _ h9 => h9) rfl dX8_goFrom_111 ?_
        refine lv_iload hx hb dX8_goFrom_114 (lv_at hl 3 rfl) ?_
        refine ro_V (As := [.int (jCh S sb q N pb h cm)]) (rest := [.int le, .ref (a 25)]) ⟨hx, hb, hml, hown, hts⟩ (c_X2_lengthOf l D cI cZ a N pb hN16 (jCh S sb q N pb h cm)) (cw_X8_84 hts rfl rfl ⟨Nat.le_of_ble_eq_true rfl, Nat.le_of_ble_eq_true rfl⟩) hK (hP.sub [18, 19, 20, 21, 22, 23, 24, 25, 26] rfl) (ci := 2) rfl rfl rfl hl.1 rfl (Nat.le_of_ble_eq_true rfl) dX8_goFrom_116 ⟨Nat.zero_le _, Nat.zero_le _⟩ ?_
        refine lv_iadd hx hb dX8_goFrom_119 ?_
        refine va_put (D := D) (ci := 8) (v := .int (le + (rg (N_n N) (N_l N) (jCh S sb q N pb h cm)))) (ty := .int) (C := RX8) (T := TX8) (N := 5) hx hb hts hin8 tyX8 tyX8_ok nmX8 hown hK.1 hP hD hS 0 rfl rfl 4 (by decide) (hts _ fl_X8_24) (fun _ h9 => h9) rfl (by decide +kernel) rfl rfl (Nat.le_of_ble_eq_true rfl) dX8_goFrom_120 (fun H locs hP hD hS => ?_)
        have hP : va_P D vwCl (wWk a cI (((k + 1) + 1), (upd f (k + 1) (jEnd N (jArc N h (jCh S sb q N pb h cm)))), en, (le + (rg (N_n N) (N_l N) (jCh S sb q N pb h cm)))) ++ wSg a cI S sb q ++ wNet a cI N pb) H := hP
        have hD : va_D _ (wWk a cI (((k + 1) + 1), (upd f (k + 1) (jEnd N (jArc N h (jCh S sb q N pb h cm)))), en, (le + (rg (N_n N) (N_l N) (jCh S sb q N pb h cm)))) ++ wSg a cI S sb q ++ wNet a cI N pb) := hD
        refine lv_iload hx hb dX8_goFrom_123 (lv_at hl 5 rfl) ?_
        refine lv_iconst (v := 1) hx hb dX8_goFrom_125 (by decide) ?_
        refine lv_iload hx hb dX8_goFrom_126 (lv_at hl 2 rfl) ?_
        refine lv_ishl hx hb dX8_goFrom_128 ?_
        refine lv_iand hx hb dX8_goFrom_129 ?_
        refine lv_if_eq (tgt := 139) hx hb dX8_goFrom_130 (by decide) (fun c_4 => ?_) (fun c_4 => ?_)
        · skip
          refine lv_iload hx hb dX8_goFrom_139 (lv_at hl 5 rfl) ?_
          refine lv_iconst (v := 1) hx hb dX8_goFrom_141 (by decide) ?_
          refine lv_iload hx hb dX8_goFrom_142 (lv_at hl 2 rfl) ?_
          refine lv_ishl hx hb dX8_goFrom_144 ?_
          refine lv_ior hx hb dX8_goFrom_145 ?_
          refine lv_istore (lv' := [(4, .int (ar ||| (1 <<< ((jArc N h (jCh S sb q N pb h cm)) &&& 31)))), (3, .int (jCh S sb q N pb h cm)), (2, .int (jEnd N (jArc N h (jCh S sb q N pb h cm)))), (7, .int (jArc N h (jCh S sb q N pb h cm))), (6, .int (jCh S sb q N pb h cm)), (0, .ref (a 25)), (5, .int (nI k))]) hx hb dX8_goFrom_146 hl (by decide) rfl (fun ls hl => ?_)
          refine lv_iinc (v := (nI (k + 1))) (lv' := [(5, .int (nI (k + 1))), (4, .int (ar ||| (1 <<< ((jArc N h (jCh S sb q N pb h cm)) &&& 31)))), (3, .int (jCh S sb q N pb h cm)), (2, .int (jEnd N (jArc N h (jCh S sb q N pb h cm)))), (7, .int (jArc N h (jCh S sb q N pb h cm))), (6, .int (jCh S sb q N pb h cm)), (0, .ref (a 25))]) hx hb dX8_goFrom_148 hl (k := 6) rfl (nI_add k 1) (by decide) rfl (fun ls hl => ?_)
          refine lv_goto (tgt := 32) hx hb dX8_goFrom_151 (by decide) ?_
          exact ih_32 ((k + 1), (jEnd N (jArc N h (jCh S sb q N pb h cm))), (jCh S sb q N pb h cm), (ar ||| (1 <<< ((jArc N h (jCh S sb q N pb h cm)) &&& 31))), (upd f (k + 1) (jEnd N (jArc N h (jCh S sb q N pb h cm)))), en, (le + (rg (N_n N) (N_l N) (jCh S sb q N pb h cm)))) ls H locs (show (k + 1) ≤ 30 ∧ jGo S sb q N pb (30 - (k + 1)) (k + 1) ((jEnd N (jArc N h (jCh S sb q N pb h cm))), (jCh S sb q N pb h cm), (ar ||| (1 <<< ((jArc N h (jCh S sb q N pb h cm)) &&& 31))), (upd f (k + 1) (jEnd N (jArc N h (jCh S sb q N pb h cm)))), (le + (rg (N_n N) (N_l N) (jCh S sb q N pb h cm)))) = jWalk S sb q N pb w.2.1 x from ⟨by omega, by rw [← hI.2]; obtain ⟨n9, hn9⟩ : ∃ n9, 30 - k = n9 + 1 := ⟨29 - k, by omega⟩; rw [show 30 - (k + 1) = n9 by omega, hn9, jGo]; dsimp only; rw [if_neg (Int32.not_lt.mpr c_2), if_pos c_4]⟩) (show 31 - (k + 1) < 31 - k from by omega) (show lv_has ls 8 [(0, .ref (a 25)), (2, .int (jEnd N (jArc N h (jCh S sb q N pb h cm)))), (3, .int (jCh S sb q N pb h cm)), (4, .int (ar ||| (1 <<< ((jArc N h (jCh S sb q N pb h cm)) &&& 31)))), (5, .int (nI (k + 1)))] from lv_sub hl [6, 3, 2, 1, 0] rfl) hP hD hS
        · skip
          refine lv_aload_n hx hb dX8_goFrom_133 rfl (lv_at hl 4 rfl) ?_
          refine lv_iconst (v := 3) hx hb dX8_goFrom_134 (by decide) ?_
          refine va_put (D := D) (ci := 8) (v := .int 3) (ty := .int) (C := RX8) (T := TX8) (N := 5) hx hb hts hin8 tyX8 tyX8_ok nmX8 hown hK.1 hP hD hS 0 rfl rfl 3 (by decide) (hts _ fl_X8_20) (fun _ h9 => h9) rfl (by decide +kernel) rfl rfl (Nat.le_of_ble_eq_true rfl) dX8_goFrom_135 (fun H locs hP hD hS => ?_)
          have hP : va_P D vwCl (wWk a cI (((k + 1) + 1), (upd f (k + 1) (jEnd N (jArc N h (jCh S sb q N pb h cm)))), 3, (le + (rg (N_n N) (N_l N) (jCh S sb q N pb h cm)))) ++ wSg a cI S sb q ++ wNet a cI N pb) H := hP
          have hD : va_D _ (wWk a cI (((k + 1) + 1), (upd f (k + 1) (jEnd N (jArc N h (jCh S sb q N pb h cm)))), 3, (le + (rg (N_n N) (N_l N) (jCh S sb q N pb h cm)))) ++ wSg a cI S sb q ++ wNet a cI N pb) := hD
          exact mu_vret hx hb hr hlocks (()) (trivial) (by show va_P D vwCl (wWk a cI (jWalk S sb q N pb w.2.1 x) ++ (wSg a cI S sb q ++ wNet a cI N pb)) _; rw [← hI.2]; obtain ⟨n9, hn9⟩ : ∃ n9, 30 - k = n9 + 1 := ⟨29 - k, by omega⟩; rw [hn9, jGo]; dsimp only; rw [if_neg (Int32.not_lt.mpr c_2), if_neg c_4]; exact hP) hS dX8_goFrom_138
      · skip
        have hk30 : k = 30 := by have h9 : nI k = nI 30 := c_3; rw [nI_eq (by omega) (by omega)] at h9; exact h9
        refine lv_goto (tgt := 154) hx hb dX8_goFrom_68 (by decide) ?_
        refine lv_aload_n hx hb dX8_goFrom_154 rfl (lv_at hl 1 rfl) ?_
        refine lv_iconst (v := 4) hx hb dX8_goFrom_155 (by decide) ?_
        refine va_put (D := D) (ci := 8) (v := .int 4) (ty := .int) (C := RX8) (T := TX8) (N := 5) hx hb hts hin8 tyX8 tyX8_ok nmX8 hown hK.1 hP hD hS 0 rfl rfl 3 (by decide) (hts _ fl_X8_20) (fun _ h9 => h9) rfl (by decide +kernel) rfl rfl (Nat.le_of_ble_eq_true rfl) dX8_goFrom_156 (fun H locs hP hD hS => ?_)
        have hP : va_P D vwCl (wWk a cI ((k + 1), f, 4, le) ++ wSg a cI S sb q ++ wNet a cI N pb) H := hP
        have hD : va_D _ (wWk a cI ((k + 1), f, 4, le) ++ wSg a cI S sb q ++ wNet a cI N pb) := hD
        exact mu_vret hx hb hr hlocks (()) (trivial) (by show va_P D vwCl (wWk a cI (jWalk S sb q N pb w.2.1 x) ++ (wSg a cI S sb q ++ wNet a cI N pb)) _; rw [← hI.2, show 30 - k = 0 by omega, jGo]; dsimp only; rw [if_neg (Int32.not_lt.mpr c_2)]; exact hP) hS dX8_goFrom_159
    · skip
      refine lv_aload_n hx hb dX8_goFrom_52 rfl (lv_at hl 1 rfl) ?_
      refine lv_iconst (v := (-1)) hx hb dX8_goFrom_53 (by decide) ?_
      refine lv_iload hx hb dX8_goFrom_54 (lv_at hl 0 rfl) ?_
      refine lv_isub hx hb dX8_goFrom_56 ?_
      refine va_put (D := D) (ci := 8) (v := .int ((-1) - (jCh S sb q N pb h cm))) (ty := .int) (C := RX8) (T := TX8) (N := 5) hx hb hts hin8 tyX8 tyX8_ok nmX8 hown hK.1 hP hD hS 0 rfl rfl 3 (by decide) (hts _ fl_X8_20) (fun _ h9 => h9) rfl (by decide +kernel) rfl rfl (Nat.le_of_ble_eq_true rfl) dX8_goFrom_57 (fun H locs hP hD hS => ?_)
      have hP : va_P D vwCl (wWk a cI ((k + 1), f, ((-1) - (jCh S sb q N pb h cm)), le) ++ wSg a cI S sb q ++ wNet a cI N pb) H := hP
      have hD : va_D _ (wWk a cI ((k + 1), f, ((-1) - (jCh S sb q N pb h cm)), le) ++ wSg a cI S sb q ++ wNet a cI N pb) := hD
      exact mu_vret hx hb hr hlocks (()) (trivial) (by show va_P D vwCl (wWk a cI (jWalk S sb q N pb w.2.1 x) ++ (wSg a cI S sb q ++ wNet a cI N pb)) _; rw [← hI.2]; rcases hz : 30 - k with _ | n9 <;> rw [jGo] <;> dsimp only <;> rw [if_pos (Int32.not_le.mp c_2)] <;> exact hP) hS dX8_goFrom_60
