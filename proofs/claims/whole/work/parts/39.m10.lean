def mCo (S : TS) : Nat → Int32
  | 0 => 0
  | i + 1 => mCo S i + (if 0 < S_f S i then 1 else 0)
def mXcount (N : TN) (S : TS) (q : TQ) (o : TO) (ro : TR) (t : TT) (fo : TF) (x : Int32) : Int32 := if x = 0 then nI (N_n N) else if x = 1 then nI (S_n S) else if x = 2 then mCo S (S_n S) else if x = 3 then q.1 else if x = 4 then nI o.1 else if x = 5 then nI ro.1 else if x = 6 then nI t.1 else if x = 7 then nI fo.1 else -3
set_option maxHeartbeats 4000000 in
set_option maxRecDepth 100000 in
theorem c_X10_count (l : Launch) (D : va_G) (cI cZ : ClassId) (am : Nat → Nat) (N : TN) (hN16 : N_n N ≤ 16) (S : TS) (hS24 : S_n S ≤ 24) (q : TQ) (o : TO) (ho8 : o.1 ≤ 8) (ro : TR) (hr10 : ro.1 ≤ 10) (t : TT) (ht6 : t.1 ≤ 6) (fo : TF) (hf5 : fo.1 ≤ 5) (k : TC) (hk8 : k.2.1 ≤ 8) (z : TZ) (x : Int32) : RO l D cI cZ yX10_count wyX10_count ({ frames := 0, cells := 0, slots := 0, locals := 0 } : Room) [.ref (am 0), .int x] (wM am cI cZ N S q o ro t fo k z) (mXcount N S q o ro t fo x) := by
  refine Met.ofW (cc := cX10_count) (maxL := 4) (ret := (some .int)) (by decide) rfl ?_
  intro p e s m args below meth c s₁ B hml hv
  obtain ⟨rfl, hK, hP⟩ := hv
  have hx := B.exec
  have hb := B.bytes
  have hr := B.returns
  have hts0 := atoms_spec (ws := wyX10_count) B.pre
  have hts : ∀ w ∈ big, w.before _ s = true := fun w h => hts0 w (List.mem_cons_of_mem _ h)
  have hown : s.vm.findClass RX10 = some m.cls := findClass_of_methodNamed B.named
  have hlocks := B.notSynchronized
  have hl := lv_entry ([.ref (am 0), .int x]) (n := 4) (Nat.le_of_ble_eq_true rfl)
  rw [lg_entry_eq]
  generalize (lg_sl ([.ref (am 0), .int x]) ++ List.replicate (4 - (lg_sl ([.ref (am 0), .int x])).length) Slot.unset).toArray = ls at hl ⊢
  have hl : lv_has ls 4 [(0, .ref (am 0)), (1, .int x)] := hl
  refine lv_iconst (v := 0) hx hb dX10_count_0 (by decide) ?_
  refine lv_istore_n (lv' := [(2, .int 0), (0, .ref (am 0)), (1, .int x)]) hx hb dX10_count_1 rfl hl (by decide) rfl (fun ls hl => ?_)
  refine lv_iload_n hx hb dX10_count_2 rfl (lv_at hl 2 rfl) ?_
  by_cases c_1_0 : x = 0
  · skip
    refine lv_tableIn (off := 45) (tgt := 48) hx hb dX10_count_3 (by rw [c_1_0]; decide) (by rw [c_1_0]; decide) (by rw [c_1_0]; decide) (by decide) ?_
    refine lv_aload_n hx hb dX10_count_48 rfl (lv_at hl 1 rfl) ?_
    refine va_get (D := D) (ci := 10) (v := .int (nI (N_n N))) (C := RX10) (T := TX10) (N := 41) hx hb hts hin10 hown hK.1 hP 0 rfl rfl 0 (by decide) (hts _ fl_X10_94) (fun _ h9 => h9) rfl dX10_count_49 ?_
    exact ro_iret hx hb hr hlocks (by unfold mXcount; simp [c_1_0]) dX10_count_52
  by_cases c_1_1 : x = 1
  · skip
    refine lv_tableIn (off := 50) (tgt := 53) hx hb dX10_count_3 (by rw [c_1_1]; decide) (by rw [c_1_1]; decide) (by rw [c_1_1]; decide) (by decide) ?_
    refine lv_aload_n hx hb dX10_count_53 rfl (lv_at hl 1 rfl) ?_
    refine va_get (D := D) (ci := 10) (v := .int (nI (S_n S))) (C := RX10) (T := TX10) (N := 41) hx hb hts hin10 hown hK.1 hP 0 rfl rfl 6 (by decide) (hts _ fl_X10_115) (fun _ h9 => h9) rfl dX10_count_54 ?_
    exact ro_iret hx hb hr hlocks (by unfold mXcount; simp [c_1_1, c_1_0]) dX10_count_57
  by_cases c_1_2 : x = 2
  · skip
    refine lv_tableIn (off := 55) (tgt := 58) hx hb dX10_count_3 (by rw [c_1_2]; decide) (by rw [c_1_2]; decide) (by rw [c_1_2]; decide) (by decide) ?_
    refine lv_iconst (v := 0) hx hb dX10_count_58 (by decide) ?_
    refine lv_istore_n (lv' := [(3, .int 0), (2, .int 0), (0, .ref (am 0)), (1, .int x)]) hx hb dX10_count_59 rfl hl (by decide) rfl (fun ls hl => ?_)
    refine w_loop (α := Nat) (fun a9 => a9 ≤ S_n S) (fun a9 => S_n S - a9) (fun a9 => [(0, .ref (am 0)), (2, .int (mCo S a9)), (3, .int (nI a9))]) 60 4 ?_ 0 (Nat.zero_le _) (show lv_has ls 4 [(0, .ref (am 0)), (2, .int (mCo S 0)), (3, .int (nI 0))] from lv_sub hl [2, 1, 0] rfl)
    intro a9 ls hI hl ih_60
    obtain ⟨i, rfl⟩ : ∃ z, z = a9 := ⟨a9, rfl⟩
    have hI : i ≤ S_n S := hI
    have hl : lv_has ls 4 [(0, .ref (am 0)), (2, .int (mCo S i)), (3, .int (nI i))] := hl
    refine lv_iload_n hx hb dX10_count_60 rfl (lv_at hl 2 rfl) ?_
    refine lv_aload_n hx hb dX10_count_61 rfl (lv_at hl 0 rfl) ?_
    refine va_get (D := D) (ci := 10) (v := .int (nI (S_n S))) (C := RX10) (T := TX10) (N := 41) hx hb hts hin10 hown hK.1 hP 0 rfl rfl 6 (by decide) (hts _ fl_X10_115) (fun _ h9 => h9) rfl dX10_count_62 ?_
    refine lv_icmp_ge (tgt := 91) hx hb dX10_count_65 (by decide) (fun c_2 => ?_) (fun c_2 => ?_)
    · skip
      have hge : S_n S ≤ i := zge (by have := hI; have := hS24; omega) (by have := hS24; omega) c_2
      have ein : S_n S = i := by have := hI; omega
      refine lv_iload_n hx hb dX10_count_91 rfl (lv_at hl 1 rfl) ?_
      exact ro_iret hx hb hr hlocks (by unfold mXcount; rw [ein]; simp [c_1_2, c_1_0, c_1_1]) dX10_count_92
    · skip
      have hlt : i < S_n S := zlt (by have := hI; have := hS24; omega) (by have := hS24; omega) c_2
      refine lv_iload_n hx hb dX10_count_68 rfl (lv_at hl 1 rfl) ?_
      refine lv_aload_n hx hb dX10_count_69 rfl (lv_at hl 0 rfl) ?_
      refine va_get (D := D) (ci := 10) (v := .ref (am 7)) (C := RX10) (T := TX10) (N := 41) hx hb hts hin10 hown hK.1 hP 0 rfl rfl 10 (by decide) (hts _ fl_X10_28) (fun _ h9 => h9) rfl dX10_count_70 ?_
      refine lv_iload_n hx hb dX10_count_73 rfl (lv_at hl 2 rfl) ?_
      refine z_iald hx hb hK.1 hP 7 0 rfl rfl i rfl (show i < 24 by have := hS24; omega) (by decide) dX10_count_74 ?_
      refine lv_if_le (tgt := 82) hx hb dX10_count_75 (by decide) (fun c_3 => ?_) (fun c_3 => ?_)
      · skip
        refine lv_iconst (v := 0) hx hb dX10_count_82 (by decide) ?_
        refine lv_iadd hx hb dX10_count_83 ?_
        refine lv_istore_n (lv' := [(2, .int ((mCo S i) + 0)), (0, .ref (am 0)), (3, .int (nI i))]) hx hb dX10_count_84 rfl hl (by decide) rfl (fun ls hl => ?_)
        have hl : lv_has ls 4 [(2, .int (mCo S (i + 1))), (0, .ref (am 0)), (3, .int (nI i))] := by rw [show (mCo S (i + 1)) = ((mCo S i) + 0) from by rw [mCo]; (first | rw [if_pos (Int32.not_le.mp c_3)] | rw [if_neg (Int32.not_lt.mpr c_3)])]; exact hl
        refine lv_iinc (v := (nI (i + 1))) (lv' := [(3, .int (nI (i + 1))), (2, .int (mCo S (i + 1))), (0, .ref (am 0))]) hx hb dX10_count_85 hl (k := 2) rfl (nI_add i 1) (by decide) rfl (fun ls hl => ?_)
        refine lv_goto (tgt := 60) hx hb dX10_count_88 (by decide) ?_
        exact ih_60 (i + 1) ls (show (i + 1) ≤ S_n S from hlt) (show S_n S - (i + 1) < S_n S - i from by omega) (show lv_has ls 4 [(0, .ref (am 0)), (2, .int (mCo S (i + 1))), (3, .int (nI (i + 1)))] from lv_sub hl [2, 1, 0] rfl)
      · skip
        refine lv_iconst (v := 1) hx hb dX10_count_78 (by decide) ?_
        refine lv_goto (tgt := 83) hx hb dX10_count_79 (by decide) ?_
        refine lv_iadd hx hb dX10_count_83 ?_
        refine lv_istore_n (lv' := [(2, .int ((mCo S i) + 1)), (0, .ref (am 0)), (3, .int (nI i))]) hx hb dX10_count_84 rfl hl (by decide) rfl (fun ls hl => ?_)
        have hl : lv_has ls 4 [(2, .int (mCo S (i + 1))), (0, .ref (am 0)), (3, .int (nI i))] := by rw [show (mCo S (i + 1)) = ((mCo S i) + 1) from by rw [mCo]; (first | rw [if_pos (Int32.not_le.mp c_3)] | rw [if_neg (Int32.not_lt.mpr c_3)])]; exact hl
        refine lv_iinc (v := (nI (i + 1))) (lv' := [(3, .int (nI (i + 1))), (2, .int (mCo S (i + 1))), (0, .ref (am 0))]) hx hb dX10_count_85 hl (k := 2) rfl (nI_add i 1) (by decide) rfl (fun ls hl => ?_)
        refine lv_goto (tgt := 60) hx hb dX10_count_88 (by decide) ?_
        exact ih_60 (i + 1) ls (show (i + 1) ≤ S_n S from hlt) (show S_n S - (i + 1) < S_n S - i from by omega) (show lv_has ls 4 [(0, .ref (am 0)), (2, .int (mCo S (i + 1))), (3, .int (nI (i + 1)))] from lv_sub hl [2, 1, 0] rfl)
  by_cases c_1_3 : x = 3
  · skip
    refine lv_tableIn (off := 90) (tgt := 93) hx hb dX10_count_3 (by rw [c_1_3]; decide) (by rw [c_1_3]; decide) (by rw [c_1_3]; decide) (by decide) ?_
    refine lv_aload_n hx hb dX10_count_93 rfl (lv_at hl 1 rfl) ?_
    refine va_get (D := D) (ci := 10) (v := .int q.1) (C := RX10) (T := TX10) (N := 41) hx hb hts hin10 hown hK.1 hP 0 rfl rfl 4 (by decide) (hts _ fl_X10_112) (fun _ h9 => h9) rfl dX10_count_94 ?_
    exact ro_iret hx hb hr hlocks (by unfold mXcount; simp [c_1_3, c_1_0, c_1_1, c_1_2]) dX10_count_97
  by_cases c_1_4 : x = 4
  · skip
    refine lv_tableIn (off := 95) (tgt := 98) hx hb dX10_count_3 (by rw [c_1_4]; decide) (by rw [c_1_4]; decide) (by rw [c_1_4]; decide) (by decide) ?_
    refine lv_aload_n hx hb dX10_count_98 rfl (lv_at hl 1 rfl) ?_
    refine va_get (D := D) (ci := 10) (v := .int (nI o.1)) (C := RX10) (T := TX10) (N := 41) hx hb hts hin10 hown hK.1 hP 0 rfl rfl 23 (by decide) (hts _ fl_X10_150) (fun _ h9 => h9) rfl dX10_count_99 ?_
    exact ro_iret hx hb hr hlocks (by unfold mXcount; simp [c_1_4, c_1_0, c_1_1, c_1_2, c_1_3]) dX10_count_102
  by_cases c_1_5 : x = 5
  · skip
    refine lv_tableIn (off := 100) (tgt := 103) hx hb dX10_count_3 (by rw [c_1_5]; decide) (by rw [c_1_5]; decide) (by rw [c_1_5]; decide) (by decide) ?_
    refine lv_aload_n hx hb dX10_count_103 rfl (lv_at hl 1 rfl) ?_
    refine va_get (D := D) (ci := 10) (v := .int (nI ro.1)) (C := RX10) (T := TX10) (N := 41) hx hb hts hin10 hown hK.1 hP 0 rfl rfl 26 (by decide) (hts _ fl_X10_162) (fun _ h9 => h9) rfl dX10_count_104 ?_
    exact ro_iret hx hb hr hlocks (by unfold mXcount; simp [c_1_5, c_1_0, c_1_1, c_1_2, c_1_3, c_1_4]) dX10_count_107
  by_cases c_1_6 : x = 6
  · skip
    refine lv_tableIn (off := 105) (tgt := 108) hx hb dX10_count_3 (by rw [c_1_6]; decide) (by rw [c_1_6]; decide) (by rw [c_1_6]; decide) (by decide) ?_
    refine lv_aload_n hx hb dX10_count_108 rfl (lv_at hl 1 rfl) ?_
    refine va_get (D := D) (ci := 10) (v := .int (nI t.1)) (C := RX10) (T := TX10) (N := 41) hx hb hts hin10 hown hK.1 hP 0 rfl rfl 28 (by decide) (hts _ fl_X10_171) (fun _ h9 => h9) rfl dX10_count_109 ?_
    exact ro_iret hx hb hr hlocks (by unfold mXcount; simp [c_1_6, c_1_0, c_1_1, c_1_2, c_1_3, c_1_4, c_1_5]) dX10_count_112
  by_cases c_1_7 : x = 7
  · skip
    refine lv_tableIn (off := 110) (tgt := 113) hx hb dX10_count_3 (by rw [c_1_7]; decide) (by rw [c_1_7]; decide) (by rw [c_1_7]; decide) (by decide) ?_
    refine lv_aload_n hx hb dX10_count_113 rfl (lv_at hl 1 rfl) ?_
    refine va_get (D := D) (ci := 10) (v := .int (nI fo.1)) (C := RX10) (T := TX10) (N := 41) hx hb hts hin10 hown hK.1 hP 0 rfl rfl 32 (by decide) (hts _ fl_X10_180) (fun _ h9 => h9) rfl dX10_count_114 ?_
    exact ro_iret hx hb hr hlocks (by unfold mXcount; simp [c_1_7, c_1_0, c_1_1, c_1_2, c_1_3, c_1_4, c_1_5, c_1_6]) dX10_count_117
  refine lv_tableOut (tgt := 118) hx hb dX10_count_3 (zt_out07 x c_1_0 c_1_1 c_1_2 c_1_3 c_1_4 c_1_5 c_1_6 c_1_7) (by decide) ?_
  refine lv_bipush (v := (-3)) hx hb dX10_count_118 (by decide) ?_
  exact ro_iret hx hb hr hlocks (by unfold mXcount; simp [c_1_0, c_1_1, c_1_2, c_1_3, c_1_4, c_1_5, c_1_6, c_1_7]) dX10_count_120

def mHm (N : TN) (ro : TR) (j : Nat) (p9 : Int32) : Bool := decide (N_l N j ≤ ro.2.2 ∧ mPA N (mOE N j p9) (N_n N) = (1 : Int32) <<< (nI j &&& 31))
set_option maxHeartbeats 4000000 in
set_option maxRecDepth 100000 in
theorem c_X10_isHarmless (l : Launch) (D : va_G) (cI cZ : ClassId) (am : Nat → Nat) (N : TN) (hN16 : N_n N ≤ 16) (S : TS) (hS24 : S_n S ≤ 24) (q : TQ) (o : TO) (ho8 : o.1 ≤ 8) (ro : TR) (hr10 : ro.1 ≤ 10) (t : TT) (ht6 : t.1 ≤ 6) (fo : TF) (hf5 : fo.1 ≤ 5) (k : TC) (hk8 : k.2.1 ≤ 8) (z : TZ) (j : Nat) (hj : j < 16) (p9 : Int32) : RO l D cI cZ yX10_isHarmless wyX10_isHarmless ({ frames := 3, cells := 0, slots := 0, locals := 67 } : Room) [.ref (am 0), .int (nI j), .int p9] (wM am cI cZ N S q o ro t fo k z) (zb (mHm N ro j p9 = true)) := by
  refine Met.ofW (cc := cX10_isHarmless) (maxL := 3) (ret := (some .boolean)) (by decide) rfl ?_
  intro p e s m args below meth c s₁ B hml hv
  obtain ⟨rfl, hK, hP⟩ := hv
  have hx := B.exec
  have hb := B.bytes
  have hr := B.returns
  have hts0 := atoms_spec (ws := wyX10_isHarmless) B.pre
  have hts : ∀ w ∈ big, w.before _ s = true := fun w h => hts0 w (List.mem_cons_of_mem _ h)
  have hown : s.vm.findClass RX10 = some m.cls := findClass_of_methodNamed B.named
  have hlocks := B.notSynchronized
  have hl := lv_entry ([.ref (am 0), .int (nI j), .int p9]) (n := 3) (Nat.le_of_ble_eq_true rfl)
  rw [lg_entry_eq]
  generalize (lg_sl ([.ref (am 0), .int (nI j), .int p9]) ++ List.replicate (3 - (lg_sl ([.ref (am 0), .int (nI j), .int p9])).length) Slot.unset).toArray = ls at hl ⊢
  have hl : lv_has ls 3 [(0, .ref (am 0)), (1, .int (nI j)), (2, .int p9)] := hl
  refine lv_aload_n hx hb dX10_isHarmless_0 rfl (lv_at hl 0 rfl) ?_
  refine va_get (D := D) (ci := 10) (v := .ref (am 3)) (C := RX10) (T := TX10) (N := 41) hx hb hts hin10 hown hK.1 hP 0 rfl rfl 3 (by decide) (hts _ fl_X10_16) (fun _ h9 => h9) rfl dX10_isHarmless_1 ?_
  refine lv_iload_n hx hb dX10_isHarmless_4 rfl (lv_at hl 1 rfl) ?_
  refine z_iald hx hb hK.1 hP 3 0 rfl rfl j rfl hj (by decide) dX10_isHarmless_5 ?_
  refine lv_aload_n hx hb dX10_isHarmless_6 rfl (lv_at hl 0 rfl) ?_
  refine va_get (D := D) (ci := 10) (v := .int ro.2.2) (C := RX10) (T := TX10) (N := 41) hx hb hts hin10 hown hK.1 hP 0 rfl rfl 16 (by decide) (hts _ fl_X10_125) (fun _ h9 => h9) rfl dX10_isHarmless_7 ?_
  refine lv_icmp_gt (tgt := 33) hx hb dX10_isHarmless_10 (by decide) (fun c_1 => ?_) (fun c_1 => ?_)
  · skip
    refine lv_iconst (v := 0) hx hb dX10_isHarmless_33 (by decide) ?_
    exact ro_zret hx hb hr hlocks (nar_zb _) ((zb_f (by unfold mHm; rw [decide_eq_true_eq]; exact fun z9 => absurd z9.1 (Int32.not_le.mpr c_1))).symm) dX10_isHarmless_34
  · skip
    refine lv_aload_n hx hb dX10_isHarmless_13 rfl (lv_at hl 0 rfl) ?_
    refine lv_aload_n hx hb dX10_isHarmless_14 rfl (lv_at hl 0 rfl) ?_
    refine lv_iload_n hx hb dX10_isHarmless_15 rfl (lv_at hl 1 rfl) ?_
    refine lv_iload_n hx hb dX10_isHarmless_16 rfl (lv_at hl 2 rfl) ?_
    refine ro_V (As := [.int (nI j), .int p9]) (rest := [.ref (am 0)]) ⟨hx, hb, hml, hown, hts⟩ (c_X10_otherEnd l D cI cZ am N hN16 S hS24 q o ho8 ro hr10 t ht6 fo hf5 k hk8 z j hj p9) (cw_X10_143 hts rfl rfl ⟨Nat.le_of_ble_eq_true rfl, Nat.le_of_ble_eq_true rfl⟩) hK hP (ci := 10) rfl rfl rfl hl.1 rfl (Nat.le_of_ble_eq_true rfl) dX10_isHarmless_17 ⟨Nat.zero_le _, Nat.zero_le _⟩ ?_
    refine ro_V (As := [.int (mOE N j p9)]) (rest := []) ⟨hx, hb, hml, hown, hts⟩ (c_X10_pathsAt l D cI cZ am N hN16 S hS24 q o ho8 ro hr10 t ht6 fo hf5 k hk8 z (mOE N j p9)) (cw_X10_118 hts rfl rfl ⟨Nat.le_of_ble_eq_true rfl, Nat.le_of_ble_eq_true rfl⟩) hK hP (ci := 10) rfl rfl rfl hl.1 rfl (Nat.le_of_ble_eq_true rfl) dX10_isHarmless_20 ⟨Nat.zero_le _, Nat.zero_le _⟩ ?_
    refine lv_iconst (v := 1) hx hb dX10_isHarmless_23 (by decide) ?_
    refine lv_iload_n hx hb dX10_isHarmless_24 rfl (lv_at hl 1 rfl) ?_
    refine lv_ishl hx hb dX10_isHarmless_25 ?_
    refine lv_icmp_ne (tgt := 33) hx hb dX10_isHarmless_26 (by decide) (fun c_2 => ?_) (fun c_2 => ?_)
    · skip
      refine lv_iconst (v := 0) hx hb dX10_isHarmless_33 (by decide) ?_
      exact ro_zret hx hb hr hlocks (nar_zb _) ((zb_f (by unfold mHm; rw [decide_eq_true_eq]; exact fun z9 => c_2 z9.2)).symm) dX10_isHarmless_34
    · skip
      refine lv_iconst (v := 1) hx hb dX10_isHarmless_29 (by decide) ?_
      refine lv_goto (tgt := 34) hx hb dX10_isHarmless_30 (by decide) ?_
      exact ro_zret hx hb hr hlocks (nar_zb _) ((zb_t (by unfold mHm; exact decide_eq_true ⟨Int32.not_lt.mp c_1, c_2⟩)).symm) dX10_isHarmless_34

def mCo9 (N : TN) (b9 p9 : Int32) : Int32 := if b9 = -1 then -1 else mJo N b9 p9 (N_n N)
theorem mCo9_cm {N : TN} {b9 p9 : Int32} : mCm N (mCo9 N b9 p9) := by
  unfold mCo9
  split
  · exact Or.inl rfl
  · exact mJo_cm
def mDg (N : TN) (ro : TR) (b9 p9 n9 : Int32) (i : Nat) : Bool := decide (mAt N (nI i) p9 = true ∧ ¬ nI i = mCo9 N b9 p9 ∧ ¬ nI i = mJo N p9 n9 (N_n N) ∧ ¬ mHm N ro i p9 = true)
def mNe (S : TS) (q : TQ) (N : TN) (ro : TR) (b9 p9 n9 : Int32) : Bool := decide (anyB (mDg N ro b9 p9 n9) (N_n N) = true ∧ ¬ mGo S q N p9 (mCo9 N b9 p9) = mJo N p9 n9 (N_n N))
set_option maxHeartbeats 4000000 in
set_option maxRecDepth 100000 in
theorem c_X10_isNeeded (l : Launch) (D : va_G) (cI cZ : ClassId) (am : Nat → Nat) (N : TN) (hN16 : N_n N ≤ 16) (S : TS) (hS24 : S_n S ≤ 24) (q : TQ) (o : TO) (ho8 : o.1 ≤ 8) (ro : TR) (hr10 : ro.1 ≤ 10) (t : TT) (ht6 : t.1 ≤ 6) (fo : TF) (hf5 : fo.1 ≤ 5) (k : TC) (hk8 : k.2.1 ≤ 8) (z : TZ) (bb pp nn : Int32) : RO l D cI cZ yX10_isNeeded wyX10_isNeeded ({ frames := 4, cells := 0, slots := 0, locals := 95 } : Room) [.ref (am 0), .int bb, .int pp, .int nn] (wM am cI cZ N S q o ro t fo k z) (zb (mNe S q N ro bb pp nn = true)) := by
  refine Met.ofW (cc := cX10_isNeeded) (maxL := 8) (ret := (some .boolean)) (by decide) rfl ?_
  intro p e s m args below meth c s₁ B hml hv
  obtain ⟨rfl, hK, hP⟩ := hv
  have hx := B.exec
  have hb := B.bytes
  have hr := B.returns
  have hts0 := atoms_spec (ws := wyX10_isNeeded) B.pre
  have hts : ∀ w ∈ big, w.before _ s = true := fun w h => hts0 w (List.mem_cons_of_mem _ h)
  have hown : s.vm.findClass RX10 = some m.cls := findClass_of_methodNamed B.named
  have hlocks := B.notSynchronized
  have hl := lv_entry ([.ref (am 0), .int bb, .int pp, .int nn]) (n := 8) (Nat.le_of_ble_eq_true rfl)
  rw [lg_entry_eq]
  generalize (lg_sl ([.ref (am 0), .int bb, .int pp, .int nn]) ++ List.replicate (8 - (lg_sl ([.ref (am 0), .int bb, .int pp, .int nn])).length) Slot.unset).toArray = ls at hl ⊢
  have hl : lv_has ls 8 [(0, .ref (am 0)), (1, .int bb), (2, .int pp), (3, .int nn)] := hl
  refine w_join (α := Int32) (fun a9 => a9 = (mCo9 N bb pp)) (fun a9 => [(0, .ref (am 0)), (1, .int bb), (2, .int pp), (3, .int nn)]) (fun a9 => [.int a9]) 15 8 (fun hJ_15 => ?_) ?_
  · skip
    refine lv_iload_n hx hb dX10_isNeeded_0 rfl (lv_at hl 1 rfl) ?_
    refine lv_iconst (v := (-1)) hx hb dX10_isNeeded_1 (by decide) ?_
    refine lv_icmp_ne (tgt := 9) hx hb dX10_isNeeded_2 (by decide) (fun c_1 => ?_) (fun c_1 => ?_)
    · skip
      refine lv_aload_n hx hb dX10_isNeeded_9 rfl (lv_at hl 0 rfl) ?_
      refine lv_iload_n hx hb dX10_isNeeded_10 rfl (lv_at hl 1 rfl) ?_
      refine lv_iload_n hx hb dX10_isNeeded_11 rfl (lv_at hl 2 rfl) ?_
      refine ro_V (As := [.int bb, .int pp]) (rest := []) ⟨hx, hb, hml, hown, hts⟩ (c_X10_joins l D cI cZ am N hN16 S hS24 q o ho8 ro hr10 t ht6 fo hf5 k hk8 z bb pp) (cw_X10_105 hts rfl rfl ⟨Nat.le_of_ble_eq_true rfl, Nat.le_of_ble_eq_true rfl⟩) hK hP (ci := 10) rfl rfl rfl hl.1 rfl (Nat.le_of_ble_eq_true rfl) dX10_isNeeded_12 ⟨Nat.zero_le _, Nat.zero_le _⟩ ?_
      exact hJ_15 (mJo N bb pp (N_n N)) ls (show (mJo N bb pp (N_n N)) = (mCo9 N bb pp) from by unfold mCo9; first | exact (if_pos c_1).symm | exact (if_neg c_1).symm) (show lv_has ls 8 [(0, .ref (am 0)), (1, .int bb), (2, .int pp), (3, .int nn)] from lv_sub hl [0, 1, 2, 3] rfl)
    · skip
      refine lv_iconst (v := (-1)) hx hb dX10_isNeeded_5 (by decide) ?_
      refine lv_goto (tgt := 15) hx hb dX10_isNeeded_6 (by decide) ?_
      exact hJ_15 (-1) ls (show (-1) = (mCo9 N bb pp) from by unfold mCo9; first | exact (if_pos c_1).symm | exact (if_neg c_1).symm) (show lv_has ls 8 [(0, .ref (am 0)), (1, .int bb), (2, .int pp), (3, .int nn)] from lv_sub hl [0, 1, 2, 3] rfl)
  · skip
    intro a9 ls hI hl
    obtain ⟨u9, rfl⟩ : ∃ z, z = a9 := ⟨a9, rfl⟩
    have hI : u9 = (mCo9 N bb pp) := hI
    subst hI
    have hl : lv_has ls 8 [(0, .ref (am 0)), (1, .int bb), (2, .int pp), (3, .int nn)] := hl
    refine lv_istore (lv' := [(4, .int (mCo9 N bb pp)), (0, .ref (am 0)), (1, .int bb), (2, .int pp), (3, .int nn)]) hx hb dX10_isNeeded_15 hl (by decide) rfl (fun ls hl => ?_)
    refine lv_aload_n hx hb dX10_isNeeded_17 rfl (lv_at hl 1 rfl) ?_
    refine lv_iload_n hx hb dX10_isNeeded_18 rfl (lv_at hl 3 rfl) ?_
    refine lv_iload_n hx hb dX10_isNeeded_19 rfl (lv_at hl 4 rfl) ?_
    refine ro_V (As := [.int pp, .int nn]) (rest := []) ⟨hx, hb, hml, hown, hts⟩ (c_X10_joins l D cI cZ am N hN16 S hS24 q o ho8 ro hr10 t ht6 fo hf5 k hk8 z pp nn) (cw_X10_105 hts rfl rfl ⟨Nat.le_of_ble_eq_true rfl, Nat.le_of_ble_eq_true rfl⟩) hK hP (ci := 10) rfl rfl rfl hl.1 rfl (Nat.le_of_ble_eq_true rfl) dX10_isNeeded_20 ⟨Nat.zero_le _, Nat.zero_le _⟩ ?_
    refine lv_istore (lv' := [(5, .int (mJo N pp nn (N_n N))), (4, .int (mCo9 N bb pp)), (0, .ref (am 0)), (1, .int bb), (2, .int pp), (3, .int nn)]) hx hb dX10_isNeeded_23 hl (by decide) rfl (fun ls hl => ?_)
    refine lv_iconst (v := 0) hx hb dX10_isNeeded_25 (by decide) ?_
    refine lv_istore (lv' := [(6, .int 0), (5, .int (mJo N pp nn (N_n N))), (4, .int (mCo9 N bb pp)), (0, .ref (am 0)), (1, .int bb), (2, .int pp), (3, .int nn)]) hx hb dX10_isNeeded_26 hl (by decide) rfl (fun ls hl => ?_)
    refine lv_iconst (v := 0) hx hb dX10_isNeeded_28 (by decide) ?_
    refine lv_istore (lv' := [(7, .int 0), (6, .int 0), (5, .int (mJo N pp nn (N_n N))), (4, .int (mCo9 N bb pp)), (0, .ref (am 0)), (1, .int bb), (2, .int pp), (3, .int nn)]) hx hb dX10_isNeeded_29 hl (by decide) rfl (fun ls hl => ?_)
    have hl : lv_has ls 8 [(7, .int 0), (6, .int (zb (anyB (mDg N ro bb pp nn) 0 = true))), (5, .int (mJo N pp nn (N_n N))), (4, .int (mCo9 N bb pp)), (0, .ref (am 0)), (1, .int bb), (2, .int pp), (3, .int nn)] := hl
    refine w_loop (α := Nat) (fun a9 => a9 ≤ N_n N) (fun a9 => N_n N - a9) (fun a9 => [(0, .ref (am 0)), (1, .int bb), (2, .int pp), (3, .int nn), (4, .int (mCo9 N bb pp)), (5, .int (mJo N pp nn (N_n N))), (6, .int (zb (anyB (mDg N ro bb pp nn) a9 = true))), (7, .int (nI a9))]) 31 8 ?_ 0 (Nat.zero_le _) (show lv_has ls 8 [(0, .ref (am 0)), (1, .int bb), (2, .int pp), (3, .int nn), (4, .int (mCo9 N bb pp)), (5, .int (mJo N pp nn (N_n N))), (6, .int (zb (anyB (mDg N ro bb pp nn) 0 = true))), (7, .int (nI 0))] from lv_sub hl [4, 5, 6, 7, 3, 2, 1, 0] rfl)
    intro a9 ls hI hl ih_31
    obtain ⟨i, rfl⟩ : ∃ z, z = a9 := ⟨a9, rfl⟩
    have hI : i ≤ N_n N := hI
    have hl : lv_has ls 8 [(0, .ref (am 0)), (1, .int bb), (2, .int pp), (3, .int nn), (4, .int (mCo9 N bb pp)), (5, .int (mJo N pp nn (N_n N))), (6, .int (zb (anyB (mDg N ro bb pp nn) i = true))), (7, .int (nI i))] := hl
    refine lv_iload hx hb dX10_isNeeded_31 (lv_at hl 7 rfl) ?_
    refine lv_aload_n hx hb dX10_isNeeded_33 rfl (lv_at hl 0 rfl) ?_
    refine va_get (D := D) (ci := 10) (v := .int (nI (N_n N))) (C := RX10) (T := TX10) (N := 41) hx hb hts hin10 hown hK.1 hP 0 rfl rfl 0 (by decide) (hts _ fl_X10_94) (fun _ h9 => h9) rfl dX10_isNeeded_34 ?_
    refine lv_icmp_ge (tgt := 92) hx hb dX10_isNeeded_37 (by decide) (fun c_2 => ?_) (fun c_2 => ?_)
    · skip
      have hge : N_n N ≤ i := zge (by have := hI; have := hN16; omega) (by have := hN16; omega) c_2
      have ein : N_n N = i := by have := hI; omega
      refine lv_iload hx hb dX10_isNeeded_92 (lv_at hl 6 rfl) ?_
      refine lv_if_eq (tgt := 113) hx hb dX10_isNeeded_94 (by decide) (fun c_3 => ?_) (fun c_3 => ?_)
      · skip
        have c_3 := zb_eq0 c_3
        refine lv_iconst (v := 0) hx hb dX10_isNeeded_113 (by decide) ?_
        exact ro_zret hx hb hr hlocks (nar_zb _) ((zb_f (by unfold mNe; rw [decide_eq_true_eq]; exact fun z9 => c_3 (by rw [← ein]; exact z9.1))).symm) dX10_isNeeded_114
      · skip
        have c_3 := zb_ne0 c_3
        refine lv_aload_n hx hb dX10_isNeeded_97 rfl (lv_at hl 0 rfl) ?_
        refine lv_iload_n hx hb dX10_isNeeded_98 rfl (lv_at hl 2 rfl) ?_
        refine lv_iload hx hb dX10_isNeeded_99 (lv_at hl 4 rfl) ?_
        refine ro_V (As := [.int pp, .int (mCo9 N bb pp)]) (rest := []) ⟨hx, hb, hml, hown, hts⟩ (c_X10_goesBy l D cI cZ am N hN16 S hS24 q o ho8 ro hr10 t ht6 fo hf5 k hk8 z pp (mCo9 N bb pp) mCo9_cm) (cw_X10_140 hts rfl rfl ⟨Nat.le_of_ble_eq_true rfl, Nat.le_of_ble_eq_true rfl⟩) hK hP (ci := 10) rfl rfl rfl hl.1 rfl (Nat.le_of_ble_eq_true rfl) dX10_isNeeded_101 ⟨Nat.zero_le _, Nat.zero_le _⟩ ?_
        refine lv_iload hx hb dX10_isNeeded_104 (lv_at hl 5 rfl) ?_
        refine lv_icmp_eq (tgt := 113) hx hb dX10_isNeeded_106 (by decide) (fun c_4 => ?_) (fun c_4 => ?_)
        · skip
          refine lv_iconst (v := 0) hx hb dX10_isNeeded_113 (by decide) ?_
          exact ro_zret hx hb hr hlocks (nar_zb _) ((zb_f (by unfold mNe; rw [decide_eq_true_eq]; exact fun z9 => z9.2 c_4)).symm) dX10_isNeeded_114
        · skip
          refine lv_iconst (v := 1) hx hb dX10_isNeeded_109 (by decide) ?_
          refine lv_goto (tgt := 114) hx hb dX10_isNeeded_110 (by decide) ?_
          exact ro_zret hx hb hr hlocks (nar_zb _) ((zb_t (by unfold mNe; rw [ein]; exact decide_eq_true ⟨c_3, by rw [← ein]; exact c_4⟩)).symm) dX10_isNeeded_114
    · skip
      have hlt : i < N_n N := zlt (by have := hI; have := hN16; omega) (by have := hN16; omega) c_2
      refine w_join (α := Int32) (fun a9 => a9 = (zb (anyB (mDg N ro bb pp nn) (i + 1) = true))) (fun a9 => [(0, .ref (am 0)), (1, .int bb), (2, .int pp), (3, .int nn), (4, .int (mCo9 N bb pp)), (5, .int (mJo N pp nn (N_n N))), (6, .int (zb (anyB (mDg N ro bb pp nn) i = true))), (7, .int (nI i))]) (fun a9 => [.int a9]) 84 8 (fun hJ_84 => ?_) ?_
      · skip
        refine lv_iload hx hb dX10_isNeeded_40 (lv_at hl 6 rfl) ?_
        refine lv_if_ne (tgt := 79) hx hb dX10_isNeeded_42 (by decide) (fun c_5 => ?_) (fun c_5 => ?_)
        · skip
          have c_5 := zb_ne0 c_5
          refine lv_iconst (v := 1) hx hb dX10_isNeeded_79 (by decide) ?_
          refine lv_goto (tgt := 84) hx hb dX10_isNeeded_80 (by decide) ?_
          exact hJ_84 1 ls (show 1 = (zb (anyB (mDg N ro bb pp nn) (i + 1) = true)) from (zb_t (by rw [anyB, Bool.or_eq_true]; exact Or.inl c_5)).symm) (show lv_has ls 8 [(0, .ref (am 0)), (1, .int bb), (2, .int pp), (3, .int nn), (4, .int (mCo9 N bb pp)), (5, .int (mJo N pp nn (N_n N))), (6, .int (zb (anyB (mDg N ro bb pp nn) i = true))), (7, .int (nI i))] from lv_sub hl [0, 1, 2, 3, 4, 5, 6, 7] rfl)
        · skip
          have c_5 := zb_eq0 c_5
          refine lv_aload_n hx hb dX10_isNeeded_45 rfl (lv_at hl 0 rfl) ?_
          refine lv_iload hx hb dX10_isNeeded_46 (lv_at hl 7 rfl) ?_
          refine lv_iload_n hx hb dX10_isNeeded_48 rfl (lv_at hl 2 rfl) ?_
          refine ro_V (As := [.int (nI i), .int pp]) (rest := []) ⟨hx, hb, hml, hown, hts⟩ (c_X10_isAt l D cI cZ am N hN16 S hS24 q o ho8 ro hr10 t ht6 fo hf5 k hk8 z (nI i) pp) (cw_X10_97 hts rfl rfl ⟨Nat.le_of_ble_eq_true rfl, Nat.le_of_ble_eq_true rfl⟩) hK hP (ci := 10) rfl rfl rfl hl.1 rfl (Nat.le_of_ble_eq_true rfl) dX10_isNeeded_49 ⟨Nat.zero_le _, Nat.zero_le _⟩ ?_
          refine lv_if_eq (tgt := 83) hx hb dX10_isNeeded_52 (by decide) (fun c_6 => ?_) (fun c_6 => ?_)
          · skip
            have c_6 := zb_eq0 c_6
            refine lv_iconst (v := 0) hx hb dX10_isNeeded_83 (by decide) ?_
            exact hJ_84 0 ls (show 0 = (zb (anyB (mDg N ro bb pp nn) (i + 1) = true)) from (zb_f (by rw [anyB, Bool.or_eq_true]; exact fun z9 => z9.elim c_5 (fun y9 => by unfold mDg at y9; rw [decide_eq_true_eq] at y9; exact c_6 y9.1))).symm) (show lv_has ls 8 [(0, .ref (am 0)), (1, .int bb), (2, .int pp), (3, .int nn), (4, .int (mCo9 N bb pp)), (5, .int (mJo N pp nn (N_n N))), (6, .int (zb (anyB (mDg N ro bb pp nn) i = true))), (7, .int (nI i))] from lv_sub hl [0, 1, 2, 3, 4, 5, 6, 7] rfl)
          · skip
            have c_6 := zb_ne0 c_6
            refine lv_iload hx hb dX10_isNeeded_55 (lv_at hl 7 rfl) ?_
            refine lv_iload hx hb dX10_isNeeded_57 (lv_at hl 4 rfl) ?_
            refine lv_icmp_eq (tgt := 83) hx hb dX10_isNeeded_59 (by decide) (fun c_7 => ?_) (fun c_7 => ?_)
            · skip
              refine lv_iconst (v := 0) hx hb dX10_isNeeded_83 (by decide) ?_
              exact hJ_84 0 ls (show 0 = (zb (anyB (mDg N ro bb pp nn) (i + 1) = true)) from (zb_f (by rw [anyB, Bool.or_eq_true]; exact fun z9 => z9.elim c_5 (fun y9 => by unfold mDg at y9; rw [decide_eq_true_eq] at y9; exact y9.2.1 c_7))).symm) (show lv_has ls 8 [(0, .ref (am 0)), (1, .int bb), (2, .int pp), (3, .int nn), (4, .int (mCo9 N bb pp)), (5, .int (mJo N pp nn (N_n N))), (6, .int (zb (anyB (mDg N ro bb pp nn) i = true))), (7, .int (nI i))] from lv_sub hl [0, 1, 2, 3, 4, 5, 6, 7] rfl)
            · skip
              refine lv_iload hx hb dX10_isNeeded_62 (lv_at hl 7 rfl) ?_
              refine lv_iload hx hb dX10_isNeeded_64 (lv_at hl 5 rfl) ?_
              refine lv_icmp_eq (tgt := 83) hx hb dX10_isNeeded_66 (by decide) (fun c_8 => ?_) (fun c_8 => ?_)
              · skip
                refine lv_iconst (v := 0) hx hb dX10_isNeeded_83 (by decide) ?_
                exact hJ_84 0 ls (show 0 = (zb (anyB (mDg N ro bb pp nn) (i + 1) = true)) from (zb_f (by rw [anyB, Bool.or_eq_true]; exact fun z9 => z9.elim c_5 (fun y9 => by unfold mDg at y9; rw [decide_eq_true_eq] at y9; exact y9.2.2.1 c_8))).symm) (show lv_has ls 8 [(0, .ref (am 0)), (1, .int bb), (2, .int pp), (3, .int nn), (4, .int (mCo9 N bb pp)), (5, .int (mJo N pp nn (N_n N))), (6, .int (zb (anyB (mDg N ro bb pp nn) i = true))), (7, .int (nI i))] from lv_sub hl [0, 1, 2, 3, 4, 5, 6, 7] rfl)
              · skip
                refine lv_aload_n hx hb dX10_isNeeded_69 rfl (lv_at hl 0 rfl) ?_
                refine lv_iload hx hb dX10_isNeeded_70 (lv_at hl 7 rfl) ?_
                refine lv_iload_n hx hb dX10_isNeeded_72 rfl (lv_at hl 2 rfl) ?_
                refine ro_V (As := [.int (nI i), .int pp]) (rest := []) ⟨hx, hb, hml, hown, hts⟩ (c_X10_isHarmless l D cI cZ am N hN16 S hS24 q o ho8 ro hr10 t ht6 fo hf5 k hk8 z i (show i < 16 by have := hN16; omega) pp) (cw_X10_165 hts rfl rfl ⟨Nat.le_of_ble_eq_true rfl, Nat.le_of_ble_eq_true rfl⟩) hK hP (ci := 10) rfl rfl rfl hl.1 rfl (Nat.le_of_ble_eq_true rfl) dX10_isNeeded_73 ⟨Nat.zero_le _, Nat.zero_le _⟩ ?_
                refine lv_if_ne (tgt := 83) hx hb dX10_isNeeded_76 (by decide) (fun c_9 => ?_) (fun c_9 => ?_)
                · skip
                  have c_9 := zb_ne0 c_9
                  refine lv_iconst (v := 0) hx hb dX10_isNeeded_83 (by decide) ?_
                  exact hJ_84 0 ls (show 0 = (zb (anyB (mDg N ro bb pp nn) (i + 1) = true)) from (zb_f (by rw [anyB, Bool.or_eq_true]; exact fun z9 => z9.elim c_5 (fun y9 => by unfold mDg at y9; rw [decide_eq_true_eq] at y9; exact y9.2.2.2 c_9))).symm) (show lv_has ls 8 [(0, .ref (am 0)), (1, .int bb), (2, .int pp), (3, .int nn), (4, .int (mCo9 N bb pp)), (5, .int (mJo N pp nn (N_n N))), (6, .int (zb (anyB (mDg N ro bb pp nn) i = true))), (7, .int (nI i))] from lv_sub hl [0, 1, 2, 3, 4, 5, 6, 7] rfl)
                · skip
                  have c_9 := zb_eq0 c_9
                  refine lv_iconst (v := 1) hx hb dX10_isNeeded_79 (by decide) ?_
                  refine lv_goto (tgt := 84) hx hb dX10_isNeeded_80 (by decide) ?_
                  exact hJ_84 1 ls (show 1 = (zb (anyB (mDg N ro bb pp nn) (i + 1) = true)) from (zb_t (by rw [anyB, Bool.or_eq_true]; exact Or.inr (by unfold mDg; exact decide_eq_true ⟨c_6, c_7, c_8, c_9⟩))).symm) (show lv_has ls 8 [(0, .ref (am 0)), (1, .int bb), (2, .int pp), (3, .int nn), (4, .int (mCo9 N bb pp)), (5, .int (mJo N pp nn (N_n N))), (6, .int (zb (anyB (mDg N ro bb pp nn) i = true))), (7, .int (nI i))] from lv_sub hl [0, 1, 2, 3, 4, 5, 6, 7] rfl)
      · skip
        intro a9 ls hI hl
        obtain ⟨u9, rfl⟩ : ∃ z, z = a9 := ⟨a9, rfl⟩
        have hI : u9 = (zb (anyB (mDg N ro bb pp nn) (i + 1) = true)) := hI
        subst hI
        have hl : lv_has ls 8 [(0, .ref (am 0)), (1, .int bb), (2, .int pp), (3, .int nn), (4, .int (mCo9 N bb pp)), (5, .int (mJo N pp nn (N_n N))), (6, .int (zb (anyB (mDg N ro bb pp nn) i = true))), (7, .int (nI i))] := hl
        refine lv_istore (lv' := [(6, .int (zb (anyB (mDg N ro bb pp nn) (i + 1) = true))), (0, .ref (am 0)), (1, .int bb), (2, .int pp), (3, .int nn), (4, .int (mCo9 N bb pp)), (5, .int (mJo N pp nn (N_n N))), (7, .int (nI i))]) hx hb dX10_isNeeded_84 hl (by decide) rfl (fun ls hl => ?_)
        refine lv_iinc (v := (nI (i + 1))) (lv' := [(7, .int (nI (i + 1))), (6, .int (zb (anyB (mDg N ro bb pp nn) (i + 1) = true))), (0, .ref (am 0)), (1, .int bb), (2, .int pp), (3, .int nn), (4, .int (mCo9 N bb pp)), (5, .int (mJo N pp nn (N_n N)))]) hx hb dX10_isNeeded_86 hl (k := 7) rfl (nI_add i 1) (by decide) rfl (fun ls hl => ?_)
        refine lv_goto (tgt := 31) hx hb dX10_isNeeded_89 (by decide) ?_
        exact ih_31 (i + 1) ls (show (i + 1) ≤ N_n N from hlt) (show N_n N - (i + 1) < N_n N - i from by omega) (show lv_has ls 8 [(0, .ref (am 0)), (1, .int bb), (2, .int pp), (3, .int nn), (4, .int (mCo9 N bb pp)), (5, .int (mJo N pp nn (N_n N))), (6, .int (zb (anyB (mDg N ro bb pp nn) (i + 1) = true))), (7, .int (nI (i + 1)))] from lv_sub hl [2, 3, 4, 5, 6, 7, 1, 0] rfl)

def mNb (ro : TR) (s9 : Int32) (i : Nat) : Int32 := if 0 ≤ nI i - s9 ∧ nI i - s9 ≤ nI ro.1 - 1 then ro.2.1 (nI i - s9).toNatClampNeg else -1
def mNd (S : TS) (q : TQ) (N : TN) (ro : TR) (s9 : Int32) : Nat → Int32
  | 0 => 0
  | i + 1 => if 0 ≤ nI i + s9 ∧ nI i + s9 ≤ nI ro.1 - 1 then mNd S q N ro s9 i ||| (if mNe S q N ro (mNb ro s9 i) (ro.2.1 i) (ro.2.1 (nI i + s9).toNatClampNeg) = true then (1 : Int32) <<< (ro.2.1 i &&& 31) else 0) else mNd S q N ro s9 i
def mXneeded (S : TS) (q : TQ) (N : TN) (ro : TR) (x : Int32) : Int32 := if 0 ≤ x ∧ x ≤ 1 then mNd S q N ro (if x = 0 then 1 else -1) ro.1 else -3
set_option maxHeartbeats 4000000 in
set_option maxRecDepth 100000 in
theorem c_X10_needed (l : Launch) (D : va_G) (cI cZ : ClassId) (am : Nat → Nat) (N : TN) (hN16 : N_n N ≤ 16) (S : TS) (hS24 : S_n S ≤ 24) (q : TQ) (o : TO) (ho8 : o.1 ≤ 8) (ro : TR) (hr10 : ro.1 ≤ 10) (t : TT) (ht6 : t.1 ≤ 6) (fo : TF) (hf5 : fo.1 ≤ 5) (k : TC) (hk8 : k.2.1 ≤ 8) (z : TZ) (x : Int32) : RO l D cI cZ yX10_needed wyX10_needed ({ frames := 5, cells := 0, slots := 0, locals := 122 } : Room) [.ref (am 0), .int x] (wM am cI cZ N S q o ro t fo k z) (mXneeded S q N ro x) := by
  refine Met.ofW (cc := cX10_needed) (maxL := 6) (ret := (some .int)) (by decide) rfl ?_
  intro p e s m args below meth c s₁ B hml hv
  obtain ⟨rfl, hK, hP⟩ := hv
  have hx := B.exec
  have hb := B.bytes
  have hr := B.returns
  have hts0 := atoms_spec (ws := wyX10_needed) B.pre
  have hts : ∀ w ∈ big, w.before _ s = true := fun w h => hts0 w (List.mem_cons_of_mem _ h)
  have hown : s.vm.findClass RX10 = some m.cls := findClass_of_methodNamed B.named
  have hlocks := B.notSynchronized
  have hl := lv_entry ([.ref (am 0), .int x]) (n := 6) (Nat.le_of_ble_eq_true rfl)
  rw [lg_entry_eq]
  generalize (lg_sl ([.ref (am 0), .int x]) ++ List.replicate (6 - (lg_sl ([.ref (am 0), .int x])).length) Slot.unset).toArray = ls at hl ⊢
  have hl : lv_has ls 6 [(0, .ref (am 0)), (1, .int x)] := hl
  refine lv_iload_n hx hb dX10_needed_0 rfl (lv_at hl 1 rfl) ?_
  refine lv_iconst (v := 0) hx hb dX10_needed_1 (by decide) ?_
  refine lv_iconst (v := 1) hx hb dX10_needed_2 (by decide) ?_
  refine ro_S (As := [.int x, .int 0, .int 1]) (rest := []) ⟨hx, hb, hml, hown, hts⟩ (c_X10_in l D cI cZ  x 0 1) (cw_X10_90 hts rfl rfl ⟨Nat.le_of_ble_eq_true rfl, Nat.le_of_ble_eq_true rfl⟩) hK P_nil rfl hl.1 rfl (Nat.le_of_ble_eq_true rfl) dX10_needed_3 ⟨Nat.zero_le _, Nat.zero_le _⟩ ?_
  refine lv_if_ne (tgt := 12) hx hb dX10_needed_6 (by decide) (fun c_1 => ?_) (fun c_1 => ?_)
  · skip
    have c_1 := zb_ne0 c_1
    refine lv_iconst (v := 0) hx hb dX10_needed_12 (by decide) ?_
    refine lv_istore_n (lv' := [(2, .int 0), (0, .ref (am 0)), (1, .int x)]) hx hb dX10_needed_13 rfl hl (by decide) rfl (fun ls hl => ?_)
    refine w_join (α := Int32) (fun a9 => a9 = (if x = 0 then 1 else -1)) (fun a9 => [(0, .ref (am 0)), (1, .int x), (2, .int 0)]) (fun a9 => [.int a9]) 23 6 (fun hJ_23 => ?_) ?_
    · skip
      refine lv_iload_n hx hb dX10_needed_14 rfl (lv_at hl 2 rfl) ?_
      refine lv_if_ne (tgt := 22) hx hb dX10_needed_15 (by decide) (fun c_2 => ?_) (fun c_2 => ?_)
      · skip
        refine lv_iconst (v := (-1)) hx hb dX10_needed_22 (by decide) ?_
        exact hJ_23 (-1) ls (show (-1) = (if x = 0 then 1 else -1) from by first | exact (if_pos c_2).symm | exact (if_neg c_2).symm) (show lv_has ls 6 [(0, .ref (am 0)), (1, .int x), (2, .int 0)] from lv_sub hl [1, 2, 0] rfl)
      · skip
        refine lv_iconst (v := 1) hx hb dX10_needed_18 (by decide) ?_
        refine lv_goto (tgt := 23) hx hb dX10_needed_19 (by decide) ?_
        exact hJ_23 1 ls (show 1 = (if x = 0 then 1 else -1) from by first | exact (if_pos c_2).symm | exact (if_neg c_2).symm) (show lv_has ls 6 [(0, .ref (am 0)), (1, .int x), (2, .int 0)] from lv_sub hl [1, 2, 0] rfl)
    · skip
      intro a9 ls hI hl
      obtain ⟨w9, rfl⟩ : ∃ z, z = a9 := ⟨a9, rfl⟩
      have hI : w9 = (if x = 0 then 1 else -1) := hI
      have hl : lv_has ls 6 [(0, .ref (am 0)), (1, .int x), (2, .int 0)] := hl
      have hw9 := hI
      refine lv_istore_n (lv' := [(3, .int w9), (0, .ref (am 0)), (1, .int x), (2, .int 0)]) hx hb dX10_needed_23 rfl hl (by decide) rfl (fun ls hl => ?_)
      refine lv_iconst (v := 0) hx hb dX10_needed_24 (by decide) ?_
      refine lv_istore (lv' := [(4, .int 0), (3, .int w9), (0, .ref (am 0)), (1, .int x), (2, .int 0)]) hx hb dX10_needed_25 hl (by decide) rfl (fun ls hl => ?_)
      refine w_loop (α := Nat) (fun a9 => a9 ≤ ro.1) (fun a9 => ro.1 - a9) (fun a9 => [(0, .ref (am 0)), (2, .int (mNd S q N ro w9 a9)), (3, .int w9), (4, .int (nI a9))]) 27 6 ?_ 0 (Nat.zero_le _) (show lv_has ls 6 [(0, .ref (am 0)), (2, .int (mNd S q N ro w9 0)), (3, .int w9), (4, .int (nI 0))] from lv_sub hl [2, 4, 1, 0] rfl)
      intro a9 ls hI hl ih_27
      obtain ⟨i, rfl⟩ : ∃ z, z = a9 := ⟨a9, rfl⟩
      have hI : i ≤ ro.1 := hI
      have hl : lv_has ls 6 [(0, .ref (am 0)), (2, .int (mNd S q N ro w9 i)), (3, .int w9), (4, .int (nI i))] := hl
      refine lv_iload hx hb dX10_needed_27 (lv_at hl 3 rfl) ?_
      refine lv_aload_n hx hb dX10_needed_29 rfl (lv_at hl 0 rfl) ?_
      refine va_get (D := D) (ci := 10) (v := .int (nI ro.1)) (C := RX10) (T := TX10) (N := 41) hx hb hts hin10 hown hK.1 hP 0 rfl rfl 26 (by decide) (hts _ fl_X10_162) (fun _ h9 => h9) rfl dX10_needed_30 ?_
      refine lv_icmp_ge (tgt := 132) hx hb dX10_needed_33 (by decide) (fun c_3 => ?_) (fun c_3 => ?_)
      · skip
        have hge : ro.1 ≤ i := zge (by have := hI; omega) (by omega) c_3
        have ein : ro.1 = i := by have := hI; omega
        refine lv_iload_n hx hb dX10_needed_132 rfl (lv_at hl 1 rfl) ?_
        exact ro_iret hx hb hr hlocks (by unfold mXneeded; rw [if_pos c_1, ← hw9, ein]) dX10_needed_133
      · skip
        have hlt : i < ro.1 := zlt (by have := hI; omega) (by omega) c_3
        refine lv_iload hx hb dX10_needed_36 (lv_at hl 3 rfl) ?_
        refine lv_iload_n hx hb dX10_needed_38 rfl (lv_at hl 2 rfl) ?_
        refine lv_iadd hx hb dX10_needed_39 ?_
        refine lv_iconst (v := 0) hx hb dX10_needed_40 (by decide) ?_
        refine lv_aload_n hx hb dX10_needed_41 rfl (lv_at hl 0 rfl) ?_
        refine va_get (D := D) (ci := 10) (v := .int (nI ro.1)) (C := RX10) (T := TX10) (N := 41) hx hb hts hin10 hown hK.1 hP 0 rfl rfl 26 (by decide) (hts _ fl_X10_162) (fun _ h9 => h9) rfl dX10_needed_42 ?_
        refine lv_iconst (v := 1) hx hb dX10_needed_45 (by decide) ?_
        refine lv_isub hx hb dX10_needed_46 ?_
        refine ro_S (As := [.int ((nI i) + w9), .int 0, .int ((nI ro.1) - 1)]) (rest := []) ⟨hx, hb, hml, hown, hts⟩ (c_X10_in l D cI cZ  ((nI i) + w9) 0 ((nI ro.1) - 1)) (cw_X10_90 hts rfl rfl ⟨Nat.le_of_ble_eq_true rfl, Nat.le_of_ble_eq_true rfl⟩) hK P_nil rfl hl.1 rfl (Nat.le_of_ble_eq_true rfl) dX10_needed_47 ⟨Nat.zero_le _, Nat.zero_le _⟩ ?_
        refine lv_if_eq (tgt := 126) hx hb dX10_needed_50 (by decide) (fun c_4 => ?_) (fun c_4 => ?_)
        · skip
          have c_4 := zb_eq0 c_4
          have hl : lv_has ls 6 [(0, .ref (am 0)), (2, .int (mNd S q N ro w9 (i + 1))), (3, .int w9), (4, .int (nI i))] := by rw [show (mNd S q N ro w9 (i + 1)) = (mNd S q N ro w9 i) from by rw [mNd]; rw [if_neg c_4]]; exact hl
          refine lv_iinc (v := (nI (i + 1))) (lv' := [(4, .int (nI (i + 1))), (0, .ref (am 0)), (2, .int (mNd S q N ro w9 (i + 1))), (3, .int w9)]) hx hb dX10_needed_126 hl (k := 3) rfl (nI_add i 1) (by decide) rfl (fun ls hl => ?_)
          refine lv_goto (tgt := 27) hx hb dX10_needed_129 (by decide) ?_
          exact ih_27 (i + 1) ls (show (i + 1) ≤ ro.1 from hlt) (show ro.1 - (i + 1) < ro.1 - i from by omega) (show lv_has ls 6 [(0, .ref (am 0)), (2, .int (mNd S q N ro w9 (i + 1))), (3, .int w9), (4, .int (nI (i + 1)))] from lv_sub hl [1, 2, 3, 0] rfl)
        · skip
          have c_4 := zb_ne0 c_4
          obtain ⟨ju, hju, eju⟩ := ix_of (n := ro.1) c_4 (by omega)
          have hcu : (nI i + w9).toNatClampNeg = ju := by rw [eju, nI_cl (by omega)]
          refine w_join (α := Int32) (fun a9 => a9 = (mNb ro w9 i)) (fun a9 => [(0, .ref (am 0)), (2, .int (mNd S q N ro w9 i)), (3, .int w9), (4, .int (nI i))]) (fun a9 => [.int a9]) 83 6 (fun hJ_83 => ?_) ?_
          · skip
            refine lv_iload hx hb dX10_needed_53 (lv_at hl 3 rfl) ?_
            refine lv_iload_n hx hb dX10_needed_55 rfl (lv_at hl 2 rfl) ?_
            refine lv_isub hx hb dX10_needed_56 ?_
            refine lv_iconst (v := 0) hx hb dX10_needed_57 (by decide) ?_
            refine lv_aload_n hx hb dX10_needed_58 rfl (lv_at hl 0 rfl) ?_
            refine va_get (D := D) (ci := 10) (v := .int (nI ro.1)) (C := RX10) (T := TX10) (N := 41) hx hb hts hin10 hown hK.1 hP 0 rfl rfl 26 (by decide) (hts _ fl_X10_162) (fun _ h9 => h9) rfl dX10_needed_59 ?_
            refine lv_iconst (v := 1) hx hb dX10_needed_62 (by decide) ?_
            refine lv_isub hx hb dX10_needed_63 ?_
            refine ro_S (As := [.int ((nI i) - w9), .int 0, .int ((nI ro.1) - 1)]) (rest := []) ⟨hx, hb, hml, hown, hts⟩ (c_X10_in l D cI cZ  ((nI i) - w9) 0 ((nI ro.1) - 1)) (cw_X10_90 hts rfl rfl ⟨Nat.le_of_ble_eq_true rfl, Nat.le_of_ble_eq_true rfl⟩) hK P_nil rfl hl.1 rfl (Nat.le_of_ble_eq_true rfl) dX10_needed_64 ⟨Nat.zero_le _, Nat.zero_le _⟩ ?_
            refine lv_if_eq (tgt := 82) hx hb dX10_needed_67 (by decide) (fun c_5 => ?_) (fun c_5 => ?_)
            · skip
              have c_5 := zb_eq0 c_5
              refine lv_iconst (v := (-1)) hx hb dX10_needed_82 (by decide) ?_
              exact hJ_83 (-1) ls (show (-1) = (mNb ro w9 i) from by unfold mNb; rw [if_neg c_5]) (show lv_has ls 6 [(0, .ref (am 0)), (2, .int (mNd S q N ro w9 i)), (3, .int w9), (4, .int (nI i))] from lv_sub hl [0, 1, 2, 3] rfl)
            · skip
              have c_5 := zb_ne0 c_5
              obtain ⟨jv, hjv, ejv⟩ := ix_of (n := ro.1) c_5 (by omega)
              have hcv : (nI i - w9).toNatClampNeg = jv := by rw [ejv, nI_cl (by omega)]
              refine lv_aload_n hx hb dX10_needed_70 rfl (lv_at hl 0 rfl) ?_
              refine va_get (D := D) (ci := 10) (v := .ref (am 16)) (C := RX10) (T := TX10) (N := 41) hx hb hts hin10 hown hK.1 hP 0 rfl rfl 27 (by decide) (hts _ fl_X10_60) (fun _ h9 => h9) rfl dX10_needed_71 ?_
              refine lv_iload hx hb dX10_needed_74 (lv_at hl 3 rfl) ?_
              refine lv_iload_n hx hb dX10_needed_76 rfl (lv_at hl 2 rfl) ?_
              refine lv_isub hx hb dX10_needed_77 ?_
              refine z_iald hx hb hK.1 hP 16 0 rfl rfl jv ejv (show jv < 10 by omega) (by decide) dX10_needed_78 ?_
              refine lv_goto (tgt := 83) hx hb dX10_needed_79 (by decide) ?_
              exact hJ_83 (ro.2.1 jv) ls (show (ro.2.1 jv) = (mNb ro w9 i) from by unfold mNb; rw [if_pos c_5, hcv]) (show lv_has ls 6 [(0, .ref (am 0)), (2, .int (mNd S q N ro w9 i)), (3, .int w9), (4, .int (nI i))] from lv_sub hl [0, 1, 2, 3] rfl)
          · skip
            intro a9 ls hI hl
            obtain ⟨u9, rfl⟩ : ∃ z, z = a9 := ⟨a9, rfl⟩
            have hI : u9 = (mNb ro w9 i) := hI
            subst hI
            have hl : lv_has ls 6 [(0, .ref (am 0)), (2, .int (mNd S q N ro w9 i)), (3, .int w9), (4, .int (nI i))] := hl
            refine lv_istore (lv' := [(5, .int (mNb ro w9 i)), (0, .ref (am 0)), (2, .int (mNd S q N ro w9 i)), (3, .int w9), (4, .int (nI i))]) hx hb dX10_needed_83 hl (by decide) rfl (fun ls hl => ?_)
            refine lv_iload_n hx hb dX10_needed_85 rfl (lv_at hl 2 rfl) ?_
            refine lv_aload_n hx hb dX10_needed_86 rfl (lv_at hl 1 rfl) ?_
            refine lv_iload hx hb dX10_needed_87 (lv_at hl 0 rfl) ?_
            refine lv_aload_n hx hb dX10_needed_89 rfl (lv_at hl 1 rfl) ?_
            refine va_get (D := D) (ci := 10) (v := .ref (am 16)) (C := RX10) (T := TX10) (N := 41) hx hb hts hin10 hown hK.1 hP 0 rfl rfl 27 (by decide) (hts _ fl_X10_60) (fun _ h9 => h9) rfl dX10_needed_90 ?_
            refine lv_iload hx hb dX10_needed_93 (lv_at hl 4 rfl) ?_
            refine z_iald hx hb hK.1 hP 16 0 rfl rfl i rfl (show i < 10 by omega) (by decide) dX10_needed_95 ?_
            refine lv_aload_n hx hb dX10_needed_96 rfl (lv_at hl 1 rfl) ?_
            refine va_get (D := D) (ci := 10) (v := .ref (am 16)) (C := RX10) (T := TX10) (N := 41) hx hb hts hin10 hown hK.1 hP 0 rfl rfl 27 (by decide) (hts _ fl_X10_60) (fun _ h9 => h9) rfl dX10_needed_97 ?_
            refine lv_iload hx hb dX10_needed_100 (lv_at hl 4 rfl) ?_
            refine lv_iload_n hx hb dX10_needed_102 rfl (lv_at hl 3 rfl) ?_
            refine lv_iadd hx hb dX10_needed_103 ?_
            refine z_iald hx hb hK.1 hP 16 0 rfl rfl ju eju (show ju < 10 by omega) (by decide) dX10_needed_104 ?_
            refine ro_V (As := [.int (mNb ro w9 i), .int (ro.2.1 i), .int (ro.2.1 ju)]) (rest := [.int (mNd S q N ro w9 i)]) ⟨hx, hb, hml, hown, hts⟩ (c_X10_isNeeded l D cI cZ am N hN16 S hS24 q o ho8 ro hr10 t ht6 fo hf5 k hk8 z (mNb ro w9 i) (ro.2.1 i) (ro.2.1 ju)) (cw_X10_168 hts rfl rfl ⟨Nat.le_of_ble_eq_true rfl, Nat.le_of_ble_eq_true rfl⟩) hK hP (ci := 10) rfl rfl rfl hl.1 rfl (Nat.le_of_ble_eq_true rfl) dX10_needed_105 ⟨Nat.zero_le _, Nat.zero_le _⟩ ?_
            refine lv_if_eq (tgt := 123) hx hb dX10_needed_108 (by decide) (fun c_6 => ?_) (fun c_6 => ?_)
            · skip
              have c_6 := zb_eq0 c_6
              refine lv_iconst (v := 0) hx hb dX10_needed_123 (by decide) ?_
              refine lv_ior hx hb dX10_needed_124 ?_
              refine lv_istore_n (lv' := [(2, .int ((mNd S q N ro w9 i) ||| 0)), (5, .int (mNb ro w9 i)), (0, .ref (am 0)), (3, .int w9), (4, .int (nI i))]) hx hb dX10_needed_125 rfl hl (by decide) rfl (fun ls hl => ?_)
              have hl : lv_has ls 6 [(2, .int (mNd S q N ro w9 (i + 1))), (5, .int (mNb ro w9 i)), (0, .ref (am 0)), (3, .int w9), (4, .int (nI i))] := by rw [show (mNd S q N ro w9 (i + 1)) = ((mNd S q N ro w9 i) ||| 0) from by rw [mNd]; rw [if_pos c_4, hcu]; (first | rw [if_pos c_6] | rw [if_neg c_6])]; exact hl
              refine lv_iinc (v := (nI (i + 1))) (lv' := [(4, .int (nI (i + 1))), (2, .int (mNd S q N ro w9 (i + 1))), (5, .int (mNb ro w9 i)), (0, .ref (am 0)), (3, .int w9)]) hx hb dX10_needed_126 hl (k := 4) rfl (nI_add i 1) (by decide) rfl (fun ls hl => ?_)
              refine lv_goto (tgt := 27) hx hb dX10_needed_129 (by decide) ?_
              exact ih_27 (i + 1) ls (show (i + 1) ≤ ro.1 from hlt) (show ro.1 - (i + 1) < ro.1 - i from by omega) (show lv_has ls 6 [(0, .ref (am 0)), (2, .int (mNd S q N ro w9 (i + 1))), (3, .int w9), (4, .int (nI (i + 1)))] from lv_sub hl [3, 1, 4, 0] rfl)
            · skip
              have c_6 := zb_ne0 c_6
              refine lv_iconst (v := 1) hx hb dX10_needed_111 (by decide) ?_
              refine lv_aload_n hx hb dX10_needed_112 rfl (lv_at hl 1 rfl) ?_
              refine va_get (D := D) (ci := 10) (v := .ref (am 16)) (C := RX10) (T := TX10) (N := 41) hx hb hts hin10 hown hK.1 hP 0 rfl rfl 27 (by decide) (hts _ fl_X10_60) (fun _ h9 => h9) rfl dX10_needed_113 ?_
              refine lv_iload hx hb dX10_needed_116 (lv_at hl 4 rfl) ?_
              refine z_iald hx hb hK.1 hP 16 0 rfl rfl i rfl (show i < 10 by omega) (by decide) dX10_needed_118 ?_
              refine lv_ishl hx hb dX10_needed_119 ?_
              refine lv_goto (tgt := 124) hx hb dX10_needed_120 (by decide) ?_
              refine lv_ior hx hb dX10_needed_124 ?_
              refine lv_istore_n (lv' := [(2, .int ((mNd S q N ro w9 i) ||| (1 <<< ((ro.2.1 i) &&& 31)))), (5, .int (mNb ro w9 i)), (0, .ref (am 0)), (3, .int w9), (4, .int (nI i))]) hx hb dX10_needed_125 rfl hl (by decide) rfl (fun ls hl => ?_)
              have hl : lv_has ls 6 [(2, .int (mNd S q N ro w9 (i + 1))), (5, .int (mNb ro w9 i)), (0, .ref (am 0)), (3, .int w9), (4, .int (nI i))] := by rw [show (mNd S q N ro w9 (i + 1)) = ((mNd S q N ro w9 i) ||| (1 <<< ((ro.2.1 i) &&& 31))) from by rw [mNd]; rw [if_pos c_4, hcu]; (first | rw [if_pos c_6] | rw [if_neg c_6])]; exact hl
              refine lv_iinc (v := (nI (i + 1))) (lv' := [(4, .int (nI (i + 1))), (2, .int (mNd S q N ro w9 (i + 1))), (5, .int (mNb ro w9 i)), (0, .ref (am 0)), (3, .int w9)]) hx hb dX10_needed_126 hl (k := 4) rfl (nI_add i 1) (by decide) rfl (fun ls hl => ?_)
              refine lv_goto (tgt := 27) hx hb dX10_needed_129 (by decide) ?_
              exact ih_27 (i + 1) ls (show (i + 1) ≤ ro.1 from hlt) (show ro.1 - (i + 1) < ro.1 - i from by omega) (show lv_has ls 6 [(0, .ref (am 0)), (2, .int (mNd S q N ro w9 (i + 1))), (3, .int w9), (4, .int (nI (i + 1)))] from lv_sub hl [3, 1, 4, 0] rfl)
  · skip
    have c_1 := zb_eq0 c_1
    refine lv_bipush (v := (-3)) hx hb dX10_needed_9 (by decide) ?_
    exact ro_iret hx hb hr hlocks (by unfold mXneeded; rw [if_neg c_1]) dX10_needed_11
