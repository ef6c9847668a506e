def mKd (s9 : Int32) (S : TS) : Nat → Int32
  | 0 => 0
  | i + 1 => mKd s9 S i ||| (if mB s9 i = true then (1 : Int32) <<< (S_k S i &&& 31) else 0)
def mIn (S : TS) (q : TQ) (N : TN) (o : TO) (j : Nat) (p y : Int32) : Bool := decide (o.2 j = -1 ∨ o.2 j = mKd (mSe S q N p y (S_n S)) S (S_n S))
set_option maxHeartbeats 4000000 in
set_option maxRecDepth 100000 in
theorem c_X10_isNoted (l : Launch) (D : va_G) (cI cZ : ClassId) (am : Nat → Nat) (N : TN) (hN16 : N_n N ≤ 16) (S : TS) (hS24 : S_n S ≤ 24) (q : TQ) (o : TO) (ho8 : o.1 ≤ 8) (ro : TR) (hr10 : ro.1 ≤ 10) (t : TT) (ht6 : t.1 ≤ 6) (fo : TF) (hf5 : fo.1 ≤ 5) (k : TC) (hk8 : k.2.1 ≤ 8) (z : TZ) (j : Nat) (hj : j < 8) (p9 y : Int32) (hcm : mCm N y) : RO l D cI cZ yX10_isNoted wyX10_isNoted ({ frames := 1, cells := 0, slots := 0, locals := 25 } : Room) [.ref (am 0), .int (nI j), .int p9, .int y] (wM am cI cZ N S q o ro t fo k z) (zb (mIn S q N o j p9 y = true)) := by
  refine Met.ofW (cc := cX10_isNoted) (maxL := 7) (ret := (some .boolean)) (by decide) rfl ?_
  intro p e s m args below meth c s₁ B hml hv
  obtain ⟨rfl, hK, hP⟩ := hv
  have hx := B.exec
  have hb := B.bytes
  have hr := B.returns
  have hts0 := atoms_spec (ws := wyX10_isNoted) B.pre
  have hts : ∀ w ∈ big, w.before _ s = true := fun w h => hts0 w (List.mem_cons_of_mem _ h)
  have hown : s.vm.findClass RX10 = some m.cls := findClass_of_methodNamed B.named
  have hlocks := B.notSynchronized
  have hl := lv_entry ([.ref (am 0), .int (nI j), .int p9, .int y]) (n := 7) (Nat.le_of_ble_eq_true rfl)
  rw [lg_entry_eq]
  generalize (lg_sl ([.ref (am 0), .int (nI j), .int p9, .int y]) ++ List.replicate (7 - (lg_sl ([.ref (am 0), .int (nI j), .int p9, .int y])).length) Slot.unset).toArray = ls at hl ⊢
  have hl : lv_has ls 7 [(0, .ref (am 0)), (1, .int (nI j)), (2, .int p9), (3, .int y)] := hl
  refine lv_aload_n hx hb dX10_isNoted_0 rfl (lv_at hl 0 rfl) ?_
  refine lv_iload_n hx hb dX10_isNoted_1 rfl (lv_at hl 2 rfl) ?_
  refine lv_iload_n hx hb dX10_isNoted_2 rfl (lv_at hl 3 rfl) ?_
  refine ro_V (As := [.int p9, .int y]) (rest := []) ⟨hx, hb, hml, hown, hts⟩ (c_X10_seenBy l D cI cZ am N hN16 S hS24 q o ho8 ro hr10 t ht6 fo hf5 k hk8 z p9 y hcm) (cw_X10_128 hts rfl rfl ⟨Nat.le_of_ble_eq_true rfl, Nat.le_of_ble_eq_true rfl⟩) hK hP (ci := 10) rfl rfl rfl hl.1 rfl (Nat.le_of_ble_eq_true rfl) dX10_isNoted_3 ⟨Nat.zero_le _, Nat.zero_le _⟩ ?_
  refine lv_istore (lv' := [(4, .int (mSe S q N p9 y (S_n S))), (0, .ref (am 0)), (1, .int (nI j)), (2, .int p9), (3, .int y)]) hx hb dX10_isNoted_6 hl (by decide) rfl (fun ls hl => ?_)
  refine lv_iconst (v := 0) hx hb dX10_isNoted_8 (by decide) ?_
  refine lv_istore (lv' := [(5, .int 0), (4, .int (mSe S q N p9 y (S_n S))), (0, .ref (am 0)), (1, .int (nI j)), (2, .int p9), (3, .int y)]) hx hb dX10_isNoted_9 hl (by decide) rfl (fun ls hl => ?_)
  refine lv_iconst (v := 0) hx hb dX10_isNoted_11 (by decide) ?_
  refine lv_istore (lv' := [(6, .int 0), (5, .int 0), (4, .int (mSe S q N p9 y (S_n S))), (0, .ref (am 0)), (1, .int (nI j)), (2, .int p9), (3, .int y)]) hx hb dX10_isNoted_12 hl (by decide) rfl (fun ls hl => ?_)
  refine w_loop (α := Nat) (fun a9 => a9 ≤ S_n S) (fun a9 => S_n S - a9) (fun a9 => [(0, .ref (am 0)), (1, .int (nI j)), (2, .int p9), (3, .int y), (4, .int (mSe S q N p9 y (S_n S))), (5, .int (mKd (mSe S q N p9 y (S_n S)) S a9)), (6, .int (nI a9))]) 14 7 ?_ 0 (Nat.zero_le _) (show lv_has ls 7 [(0, .ref (am 0)), (1, .int (nI j)), (2, .int p9), (3, .int y), (4, .int (mSe S q N p9 y (S_n S))), (5, .int (mKd (mSe S q N p9 y (S_n S)) S 0)), (6, .int (nI 0))] from lv_sub hl [3, 4, 5, 6, 2, 1, 0] rfl)
  intro a9 ls hI hl ih_14
  obtain ⟨i, rfl⟩ : ∃ z, z = a9 := ⟨a9, rfl⟩
  have hI : i ≤ S_n S := hI
  have hl : lv_has ls 7 [(0, .ref (am 0)), (1, .int (nI j)), (2, .int p9), (3, .int y), (4, .int (mSe S q N p9 y (S_n S))), (5, .int (mKd (mSe S q N p9 y (S_n S)) S i)), (6, .int (nI i))] := hl
  refine lv_iload hx hb dX10_isNoted_14 (lv_at hl 6 rfl) ?_
  refine lv_aload_n hx hb dX10_isNoted_16 rfl (lv_at hl 0 rfl) ?_
  refine va_get (D := D) (ci := 10) (v := .int (nI (S_n S))) (C := RX10) (T := TX10) (N := 41) hx hb hts hin10 hown hK.1 hP 0 rfl rfl 6 (by decide) (hts _ fl_X10_115) (fun _ h9 => h9) rfl dX10_isNoted_17 ?_
  refine lv_icmp_ge (tgt := 58) hx hb dX10_isNoted_20 (by decide) (fun c_1 => ?_) (fun c_1 => ?_)
  · skip
    have hge : S_n S ≤ i := zge (by have := hI; have := hS24; omega) (by have := hS24; omega) c_1
    have ein : S_n S = i := by have := hI; omega
    refine lv_aload_n hx hb dX10_isNoted_58 rfl (lv_at hl 0 rfl) ?_
    refine va_get (D := D) (ci := 10) (v := .ref (am 14)) (C := RX10) (T := TX10) (N := 41) hx hb hts hin10 hown hK.1 hP 0 rfl rfl 24 (by decide) (hts _ fl_X10_54) (fun _ h9 => h9) rfl dX10_isNoted_59 ?_
    refine lv_iload_n hx hb dX10_isNoted_62 rfl (lv_at hl 1 rfl) ?_
    refine z_iald hx hb hK.1 hP 14 0 rfl rfl j rfl hj (by decide) dX10_isNoted_63 ?_
    refine lv_iconst (v := (-1)) hx hb dX10_isNoted_64 (by decide) ?_
    refine lv_icmp_eq (tgt := 79) hx hb dX10_isNoted_65 (by decide) (fun c_2 => ?_) (fun c_2 => ?_)
    · skip
      refine lv_iconst (v := 1) hx hb dX10_isNoted_79 (by decide) ?_
      refine lv_goto (tgt := 84) hx hb dX10_isNoted_80 (by decide) ?_
      exact ro_zret hx hb hr hlocks (nar_zb _) ((zb_t (by unfold mIn; rw [decide_eq_true_eq]; exact Or.inl c_2)).symm) dX10_isNoted_84
    · skip
      refine lv_aload_n hx hb dX10_isNoted_68 rfl (lv_at hl 0 rfl) ?_
      refine va_get (D := D) (ci := 10) (v := .ref (am 14)) (C := RX10) (T := TX10) (N := 41) hx hb hts hin10 hown hK.1 hP 0 rfl rfl 24 (by decide) (hts _ fl_X10_54) (fun _ h9 => h9) rfl dX10_isNoted_69 ?_
      refine lv_iload_n hx hb dX10_isNoted_72 rfl (lv_at hl 1 rfl) ?_
      refine z_iald hx hb hK.1 hP 14 0 rfl rfl j rfl hj (by decide) dX10_isNoted_73 ?_
      refine lv_iload hx hb dX10_isNoted_74 (lv_at hl 5 rfl) ?_
      refine lv_icmp_ne (tgt := 83) hx hb dX10_isNoted_76 (by decide) (fun c_3 => ?_) (fun c_3 => ?_)
      · skip
        refine lv_iconst (v := 0) hx hb dX10_isNoted_83 (by decide) ?_
        exact ro_zret hx hb hr hlocks (nar_zb _) ((zb_f (by unfold mIn; rw [decide_eq_true_eq]; exact fun z9 => z9.elim c_2 (by have y9 := c_3; rw [← ein] at y9; exact y9))).symm) dX10_isNoted_84
      · skip
        refine lv_iconst (v := 1) hx hb dX10_isNoted_79 (by decide) ?_
        refine lv_goto (tgt := 84) hx hb dX10_isNoted_80 (by decide) ?_
        exact ro_zret hx hb hr hlocks (nar_zb _) ((zb_t (by unfold mIn; rw [decide_eq_true_eq]; exact Or.inr (by have y9 := c_3; rw [← ein] at y9; exact y9))).symm) dX10_isNoted_84
  · skip
    have hlt : i < S_n S := zlt (by have := hI; have := hS24; omega) (by have := hS24; omega) c_1
    refine lv_iload hx hb dX10_isNoted_23 (lv_at hl 5 rfl) ?_
    refine lv_iload hx hb dX10_isNoted_25 (lv_at hl 4 rfl) ?_
    refine lv_iload hx hb dX10_isNoted_27 (lv_at hl 6 rfl) ?_
    refine lv_ishr hx hb dX10_isNoted_29 ?_
    refine lv_iconst (v := 1) hx hb dX10_isNoted_30 (by decide) ?_
    refine lv_iand hx hb dX10_isNoted_31 ?_
    refine lv_iconst (v := 1) hx hb dX10_isNoted_32 (by decide) ?_
    refine lv_icmp_ne (tgt := 48) hx hb dX10_isNoted_33 (by decide) (fun c_4 => ?_) (fun c_4 => ?_)
    · skip
      refine lv_iconst (v := 0) hx hb dX10_isNoted_48 (by decide) ?_
      refine lv_ior hx hb dX10_isNoted_49 ?_
      refine lv_istore (lv' := [(5, .int ((mKd (mSe S q N p9 y (S_n S)) S i) ||| 0)), (0, .ref (am 0)), (1, .int (nI j)), (2, .int p9), (3, .int y), (4, .int (mSe S q N p9 y (S_n S))), (6, .int (nI i))]) hx hb dX10_isNoted_50 hl (by decide) rfl (fun ls hl => ?_)
      have hl : lv_has ls 7 [(5, .int (mKd (mSe S q N p9 y (S_n S)) S (i + 1))), (0, .ref (am 0)), (1, .int (nI j)), (2, .int p9), (3, .int y), (4, .int (mSe S q N p9 y (S_n S))), (6, .int (nI i))] := by rw [show (mKd (mSe S q N p9 y (S_n S)) S (i + 1)) = ((mKd (mSe S q N p9 y (S_n S)) S i) ||| 0) from by rw [mKd]; unfold mB; (first | rw [if_pos (decide_eq_true c_4)] | rw [if_neg (fun z9 => c_4 (of_decide_eq_true z9))])]; exact hl
      refine lv_iinc (v := (nI (i + 1))) (lv' := [(6, .int (nI (i + 1))), (5, .int (mKd (mSe S q N p9 y (S_n S)) S (i + 1))), (0, .ref (am 0)), (1, .int (nI j)), (2, .int p9), (3, .int y), (4, .int (mSe S q N p9 y (S_n S)))]) hx hb dX10_isNoted_52 hl (k := 6) rfl (nI_add i 1) (by decide) rfl (fun ls hl => ?_)
      refine lv_goto (tgt := 14) hx hb dX10_isNoted_55 (by decide) ?_
      exact ih_14 (i + 1) ls (show (i + 1) ≤ S_n S from hlt) (show S_n S - (i + 1) < S_n S - i from by omega) (show lv_has ls 7 [(0, .ref (am 0)), (1, .int (nI j)), (2, .int p9), (3, .int y), (4, .int (mSe S q N p9 y (S_n S))), (5, .int (mKd (mSe S q N p9 y (S_n S)) S (i + 1))), (6, .int (nI (i + 1)))] from lv_sub hl [2, 3, 4, 5, 6, 1, 0] rfl)
    · skip
      refine lv_iconst (v := 1) hx hb dX10_isNoted_36 (by decide) ?_
      refine lv_aload_n hx hb dX10_isNoted_37 rfl (lv_at hl 0 rfl) ?_
      refine va_get (D := D) (ci := 10) (v := .ref (am 5)) (C := RX10) (T := TX10) (N := 41) hx hb hts hin10 hown hK.1 hP 0 rfl rfl 8 (by decide) (hts _ fl_X10_22) (fun _ h9 => h9) rfl dX10_isNoted_38 ?_
      refine lv_iload hx hb dX10_isNoted_41 (lv_at hl 6 rfl) ?_
      refine z_iald hx hb hK.1 hP 5 0 rfl rfl i rfl (show i < 24 by have := hS24; omega) (by decide) dX10_isNoted_43 ?_
      refine lv_ishl hx hb dX10_isNoted_44 ?_
      refine lv_goto (tgt := 49) hx hb dX10_isNoted_45 (by decide) ?_
      refine lv_ior hx hb dX10_isNoted_49 ?_
      refine lv_istore (lv' := [(5, .int ((mKd (mSe S q N p9 y (S_n S)) S i) ||| (1 <<< (((S_k S) i) &&& 31)))), (0, .ref (am 0)), (1, .int (nI j)), (2, .int p9), (3, .int y), (4, .int (mSe S q N p9 y (S_n S))), (6, .int (nI i))]) hx hb dX10_isNoted_50 hl (by decide) rfl (fun ls hl => ?_)
      have hl : lv_has ls 7 [(5, .int (mKd (mSe S q N p9 y (S_n S)) S (i + 1))), (0, .ref (am 0)), (1, .int (nI j)), (2, .int p9), (3, .int y), (4, .int (mSe S q N p9 y (S_n S))), (6, .int (nI i))] := by rw [show (mKd (mSe S q N p9 y (S_n S)) S (i + 1)) = ((mKd (mSe S q N p9 y (S_n S)) S i) ||| (1 <<< (((S_k S) i) &&& 31))) from by rw [mKd]; unfold mB; (first | rw [if_pos (decide_eq_true c_4)] | rw [if_neg (fun z9 => c_4 (of_decide_eq_true z9))])]; exact hl
      refine lv_iinc (v := (nI (i + 1))) (lv' := [(6, .int (nI (i + 1))), (5, .int (mKd (mSe S q N p9 y (S_n S)) S (i + 1))), (0, .ref (am 0)), (1, .int (nI j)), (2, .int p9), (3, .int y), (4, .int (mSe S q N p9 y (S_n S)))]) hx hb dX10_isNoted_52 hl (k := 6) rfl (nI_add i 1) (by decide) rfl (fun ls hl => ?_)
      refine lv_goto (tgt := 14) hx hb dX10_isNoted_55 (by decide) ?_
      exact ih_14 (i + 1) ls (show (i + 1) ≤ S_n S from hlt) (show S_n S - (i + 1) < S_n S - i from by omega) (show lv_has ls 7 [(0, .ref (am 0)), (1, .int (nI j)), (2, .int p9), (3, .int y), (4, .int (mSe S q N p9 y (S_n S))), (5, .int (mKd (mSe S q N p9 y (S_n S)) S (i + 1))), (6, .int (nI (i + 1)))] from lv_sub hl [2, 3, 4, 5, 6, 1, 0] rfl)

def mMy (N : TN) (p9 c9 u9 : Int32) : Bool := decide (mAt N u9 p9 = true ∧ (¬ u9 = c9 ∨ mPA N p9 (N_n N) = (1 : Int32) <<< (u9 &&& 31)))
set_option maxHeartbeats 4000000 in
set_option maxRecDepth 100000 in
theorem c_X10_mayGo (l : Launch) (D : va_G) (cI cZ : ClassId) (am : Nat → Nat) (N : TN) (hN16 : N_n N ≤ 16) (S : TS) (hS24 : S_n S ≤ 24) (q : TQ) (o : TO) (ho8 : o.1 ≤ 8) (ro : TR) (hr10 : ro.1 ≤ 10) (t : TT) (ht6 : t.1 ≤ 6) (fo : TF) (hf5 : fo.1 ≤ 5) (k : TC) (hk8 : k.2.1 ≤ 8) (z : TZ) (p9 y u9 : Int32) : RO l D cI cZ yX10_mayGo wyX10_mayGo ({ frames := 3, cells := 0, slots := 0, locals := 67 } : Room) [.ref (am 0), .int p9, .int y, .int u9] (wM am cI cZ N S q o ro t fo k z) (zb (mMy N p9 y u9 = true)) := by
  refine Met.ofW (cc := cX10_mayGo) (maxL := 5) (ret := (some .boolean)) (by decide) rfl ?_
  intro p e s m args below meth c s₁ B hml hv
  obtain ⟨rfl, hK, hP⟩ := hv
  have hx := B.exec
  have hb := B.bytes
  have hr := B.returns
  have hts0 := atoms_spec (ws := wyX10_mayGo) B.pre
  have hts : ∀ w ∈ big, w.before _ s = true := fun w h => hts0 w (List.mem_cons_of_mem _ h)
  have hown : s.vm.findClass RX10 = some m.cls := findClass_of_methodNamed B.named
  have hlocks := B.notSynchronized
  have hl := lv_entry ([.ref (am 0), .int p9, .int y, .int u9]) (n := 5) (Nat.le_of_ble_eq_true rfl)
  rw [lg_entry_eq]
  generalize (lg_sl ([.ref (am 0), .int p9, .int y, .int u9]) ++ List.replicate (5 - (lg_sl ([.ref (am 0), .int p9, .int y, .int u9])).length) Slot.unset).toArray = ls at hl ⊢
  have hl : lv_has ls 5 [(0, .ref (am 0)), (1, .int p9), (2, .int y), (3, .int u9)] := hl
  refine lv_aload_n hx hb dX10_mayGo_0 rfl (lv_at hl 0 rfl) ?_
  refine lv_iload_n hx hb dX10_mayGo_1 rfl (lv_at hl 1 rfl) ?_
  refine ro_V (As := [.int p9]) (rest := []) ⟨hx, hb, hml, hown, hts⟩ (c_X10_pathsAt l D cI cZ am N hN16 S hS24 q o ho8 ro hr10 t ht6 fo hf5 k hk8 z p9) (cw_X10_118 hts rfl rfl ⟨Nat.le_of_ble_eq_true rfl, Nat.le_of_ble_eq_true rfl⟩) hK hP (ci := 10) rfl rfl rfl hl.1 rfl (Nat.le_of_ble_eq_true rfl) dX10_mayGo_2 ⟨Nat.zero_le _, Nat.zero_le _⟩ ?_
  refine lv_istore (lv' := [(4, .int (mPA N p9 (N_n N))), (0, .ref (am 0)), (1, .int p9), (2, .int y), (3, .int u9)]) hx hb dX10_mayGo_5 hl (by decide) rfl (fun ls hl => ?_)
  refine lv_aload_n hx hb dX10_mayGo_7 rfl (lv_at hl 1 rfl) ?_
  refine lv_iload_n hx hb dX10_mayGo_8 rfl (lv_at hl 4 rfl) ?_
  refine lv_iload_n hx hb dX10_mayGo_9 rfl (lv_at hl 2 rfl) ?_
  refine ro_V (As := [.int u9, .int p9]) (rest := []) ⟨hx, hb, hml, hown, hts⟩ (c_X10_isAt l D cI cZ am N hN16 S hS24 q o ho8 ro hr10 t ht6 fo hf5 k hk8 z u9 p9) (cw_X10_97 hts rfl rfl ⟨Nat.le_of_ble_eq_true rfl, Nat.le_of_ble_eq_true rfl⟩) hK hP (ci := 10) rfl rfl rfl hl.1 rfl (Nat.le_of_ble_eq_true rfl) dX10_mayGo_10 ⟨Nat.zero_le _, Nat.zero_le _⟩ ?_
  refine lv_if_eq (tgt := 33) hx hb dX10_mayGo_13 (by decide) (fun c_1 => ?_) (fun c_1 => ?_)
  · skip
    have c_1 := zb_eq0 c_1
    refine lv_iconst (v := 0) hx hb dX10_mayGo_33 (by decide) ?_
    exact ro_zret hx hb hr hlocks (nar_zb _) ((zb_f (by unfold mMy; rw [decide_eq_true_eq]; exact fun z9 => c_1 z9.1)).symm) dX10_mayGo_34
  · skip
    have c_1 := zb_ne0 c_1
    refine lv_iload_n hx hb dX10_mayGo_16 rfl (lv_at hl 4 rfl) ?_
    refine lv_iload_n hx hb dX10_mayGo_17 rfl (lv_at hl 3 rfl) ?_
    refine lv_icmp_ne (tgt := 29) hx hb dX10_mayGo_18 (by decide) (fun c_2 => ?_) (fun c_2 => ?_)
    · skip
      refine lv_iconst (v := 1) hx hb dX10_mayGo_29 (by decide) ?_
      refine lv_goto (tgt := 34) hx hb dX10_mayGo_30 (by decide) ?_
      exact ro_zret hx hb hr hlocks (nar_zb _) ((zb_t (by unfold mMy; rw [decide_eq_true_eq]; exact ⟨c_1, Or.inl c_2⟩)).symm) dX10_mayGo_34
    · skip
      refine lv_iload hx hb dX10_mayGo_21 (lv_at hl 0 rfl) ?_
      refine lv_iconst (v := 1) hx hb dX10_mayGo_23 (by decide) ?_
      refine lv_iload_n hx hb dX10_mayGo_24 rfl (lv_at hl 4 rfl) ?_
      refine lv_ishl hx hb dX10_mayGo_25 ?_
      refine lv_icmp_ne (tgt := 33) hx hb dX10_mayGo_26 (by decide) (fun c_3 => ?_) (fun c_3 => ?_)
      · skip
        refine lv_iconst (v := 0) hx hb dX10_mayGo_33 (by decide) ?_
        exact ro_zret hx hb hr hlocks (nar_zb _) ((zb_f (by unfold mMy; rw [decide_eq_true_eq]; exact fun z9 => z9.2.elim (fun y9 => y9 c_2) c_3)).symm) dX10_mayGo_34
      · skip
        refine lv_iconst (v := 1) hx hb dX10_mayGo_29 (by decide) ?_
        refine lv_goto (tgt := 34) hx hb dX10_mayGo_30 (by decide) ?_
        exact ro_zret hx hb hr hlocks (nar_zb _) ((zb_t (by unfold mMy; rw [decide_eq_true_eq]; exact ⟨c_1, Or.inr c_3⟩)).symm) dX10_mayGo_34

def NE (N : TN) : Prop := ∀ i, i < N_n N → (∃ a : Nat, a < 10 ∧ N_a N i = nI a) ∧ ∃ b : Nat, b < 10 ∧ N_b N i = nI b
def SV (N : TN) (S : TS) : Prop := ∀ i, i < S_n S → S_k S i = 0 → ∃ j : Nat, j < N_n N ∧ S_v S i = nI j
theorem mFo_lt {fr : Int32} : ∀ i, mFo fr i = -1 ∨ ∃ j : Nat, j < i ∧ mFo fr i = nI j
  | 0 => Or.inl rfl
  | i + 1 => by
    rw [mFo]
    split
    · exact Or.inr ⟨i, by omega, rfl⟩
    · rcases mFo_lt (fr := fr) i with h | ⟨j, h1, h2⟩
      · exact Or.inl h
      · exact Or.inr ⟨j, by omega, h2⟩
theorem mLa_k {s9 : Int32} {S : TS} : ∀ i, mLa s9 S i = -1 ∨ ∃ j : Nat, j < i ∧ mLa s9 S i = nI j ∧ S_k S j = 0
  | 0 => Or.inl rfl
  | i + 1 => by
    rw [mLa]
    split
    · exact Or.inr ⟨i, by omega, rfl, (by assumption : mB s9 i = true ∧ S_k S i = 0 ∧ _).2.1⟩
    · rcases mLa_k (s9 := s9) (S := S) i with h | ⟨j, h1, h2⟩
      · exact Or.inl h
      · exact Or.inr ⟨j, by omega, h2⟩
theorem mGo_cm {S : TS} {q : TQ} {N : TN} {p k : Int32} (hSV : SV N S) (hS : S_n S < 2 ^ 31) (h : ¬ mGo S q N p k < 0) : ∃ j : Nat, j < N_n N ∧ mGo S q N p k = nI j := by
  unfold mGo at h ⊢
  split
  · rename_i h1; rw [if_pos h1] at h; exact absurd (by decide) h
  · rename_i h1
    rw [if_neg h1] at h
    split
    · rename_i h2
      obtain ⟨j, h3, h4, h5⟩ := (mLa_k (s9 := mSe S q N p k (S_n S)) (S := S) (S_n S)).resolve_left h2
      rw [h4, nI_cl (by omega)]
      exact hSV j h3 h5
    · rename_i h2
      rw [if_neg h2] at h
      split
      · rename_i h3; rw [if_pos h3] at h; exact absurd (by decide) h
      · rename_i h3
        rw [if_neg h3] at h
        rcases mFo_lt (fr := mFr (mSe S q N p k (S_n S)) S (mOp N p k) (S_n S)) (N_n N) with h4 | h4
        · rw [h4] at h; exact absurd (by decide) h
        · exact h4
def mCf (f : Nat → Int32) : Nat → Nat → Int32
  | 0 => f
  | i + 1 => upd (mCf f i) i 0
/-- where it was come -/
def mCi (p k : Int32) : Nat := 16 * p.toNatClampNeg + k.toNatClampNeg
def mCs (p k : Int32) (f : Nat → Int32) : Nat → Int32 := if k = -1 then f else upd f (mCi p k) 1
/-- place, come by, came, places, length ; to: ends, paths, length, places, came -/
abbrev TW : Type := Int32 × Int32 × (Nat → Int32) × (Nat → Int32) × Int32
abbrev TE : Type := Int32 × Nat × Int32 × (Nat → Int32) × (Nat → Int32)
def mOe9 (N : TN) (u9 p : Int32) : Int32 := mOE N u9.toNatClampNeg p
def mEn (S : TS) (q : TQ) (N : TN) (lim : Bool) (g : TW) : Int32 :=
  if mGo S q N g.1 g.2.1 = -2 then 2 else if ¬ g.2.1 = -1 ∧ ¬ g.2.2.1 (mCi g.1 g.2.1) = 0 then 3 else if mGo S q N g.1 g.2.1 < 0 then (if mGo S q N g.1 g.2.1 = -3 then 1 else 0) else if lim = true then 4 else -1
def mStp (S : TS) (q : TQ) (N : TN) (k : Nat) (g : TW) : TW :=
  (mOe9 N (mGo S q N g.1 g.2.1) g.1, mGo S q N g.1 g.2.1, mCs g.1 g.2.1 g.2.2.1, upd g.2.2.2.1 (k + 1) (mOe9 N (mGo S q N g.1 g.2.1) g.1), g.2.2.2.2 + N_l N (mGo S q N g.1 g.2.1).toNatClampNeg)
def mWk (S : TS) (q : TQ) (N : TN) : Nat → Nat → TW → TE
  | 0, k, g => (mEn S q N true g, k, g.2.2.2.2, g.2.2.2.1, mCs g.1 g.2.1 g.2.2.1)
  | n + 1, k, g => if mEn S q N false g = -1 then mWk S q N n (k + 1) (mStp S q N k g) else (mEn S q N false g, k, g.2.2.2.2, g.2.2.2.1, mCs g.1 g.2.1 g.2.2.1)
def mWalk (S : TS) (q : TQ) (N : TN) (z : TZ) (x : Int32) : TE := mWk S q N 30 0 (x, -1, mCf z.2.2.2.2.1 160, upd z.2.2.2.1 0 x, 0)
def mZw (z : TZ) (e : TE) : TZ := (e.1, nI e.2.1, e.2.2.1, e.2.2.2.1, e.2.2.2.2, z.2.2.2.2.2.1, z.2.2.2.2.2.2.1, z.2.2.2.2.2.2.2)
theorem mWk_e {S : TS} {q : TQ} {N : TN} {n k : Nat} {g : TW} {e : Int32} (h : mEn S q N (decide (n = 0)) g = e) (he : ¬ e = -1) : mWk S q N n k g = (e, k, g.2.2.2.2, g.2.2.2.1, mCs g.1 g.2.1 g.2.2.1) := by
  cases n with
  | zero => rw [mWk, ← h]; rfl
  | succ n =>
    have h1 : mEn S q N false g = e := by rw [← h]; rw [decide_eq_false (Nat.succ_ne_zero n)]
    rw [mWk, h1, if_neg he]
theorem mWk_s {S : TS} {q : TQ} {N : TN} {n k : Nat} {g : TW} (h : mEn S q N false g = -1) : mWk S q N (n + 1) k g = mWk S q N n (k + 1) (mStp S q N k g) := by rw [mWk, if_pos h]
theorem mOE_ne {N : TN} (h : NE N) {u : Nat} (hu : u < N_n N) (p : Int32) : ∃ a : Nat, a < 10 ∧ mOE N u p = nI a := by
  unfold mOE
  split
  · exact (h u hu).2
  · exact (h u hu).1
set_option maxHeartbeats 4000000 in
set_option maxRecDepth 100000 in
theorem c_X10_goWalk (l : Launch) (D : va_G) (cI cZ : ClassId) (am : Nat → Nat) (N : TN) (hN16 : N_n N ≤ 16) (S : TS) (hS24 : S_n S ≤ 24) (q : TQ) (o : TO) (ho8 : o.1 ≤ 8) (ro : TR) (hr10 : ro.1 ≤ 10) (t : TT) (ht6 : t.1 ≤ 6) (fo : TF) (hf5 : fo.1 ≤ 5) (k : TC) (hk8 : k.2.1 ≤ 8) (z : TZ) (hNE : NE N) (hSV : SV N S) (j0 : Nat) (hj0 : j0 < 10) : MV l D cI cZ yX10_goWalk wyX10_goWalk ({ frames := 4, cells := 0, slots := 0, locals := 95 } : Room) [.ref (am 0), .int (nI j0)] (wM am cI cZ N S q o ro t fo k z) (fun _ => True) (fun (_ : Unit) => wM am cI cZ N S q o ro t fo k (mZw z (mWalk S q N z (nI j0)))) := by
  refine Met.ofW (cc := cX10_goWalk) (maxL := 6) (ret := none) (by decide) rfl ?_
  intro p e s m args below meth c s₁ B hml hv
  obtain ⟨rfl, hK, hP, hD0⟩ := hv
  have hx := B.exec
  have hb := B.bytes
  have hr := B.returns
  have hts0 := atoms_spec (ws := wyX10_goWalk) B.pre
  have hts : ∀ w ∈ big, w.before _ s = true := fun w h => hts0 w (List.mem_cons_of_mem _ h)
  have hown : s.vm.findClass RX10 = some m.cls := findClass_of_methodNamed B.named
  have hlocks := B.notSynchronized
  have hD := D_inW hD0
  have hS : va_S (inW (wM am cI cZ N S q o ro t fo k z)) s.heap s.heap [] := va_S.rf
  have hl := lv_entry ([.ref (am 0), .int (nI j0)]) (n := 6) (Nat.le_of_ble_eq_true rfl)
  rw [lg_entry_eq]
  generalize (lg_sl ([.ref (am 0), .int (nI j0)]) ++ List.replicate (6 - (lg_sl ([.ref (am 0), .int (nI j0)])).length) Slot.unset).toArray = ls at hl ⊢
  have hl : lv_has ls 6 [(0, .ref (am 0)), (1, .int (nI j0))] := hl
  refine lv_iconst (v := 0) hx hb dX10_goWalk_0 (by decide) ?_
  refine lv_istore_n (lv' := [(2, .int 0), (0, .ref (am 0)), (1, .int (nI j0))]) hx hb dX10_goWalk_1 rfl hl (by decide) rfl (fun ls hl => ?_)
  refine w_loopH (α := Nat) (fun a9 => a9 ≤ 160) (fun a9 => 160 - a9) (fun a9 => wM am cI cZ N S q o ro t fo k (z.1, z.2.1, z.2.2.1, z.2.2.2.1, (mCf z.2.2.2.2.1 a9), z.2.2.2.2.2.1, z.2.2.2.2.2.2.1, z.2.2.2.2.2.2.2)) (fun a9 => [(0, .ref (am 0)), (1, .int (nI j0)), (2, .int (nI a9))]) 2 6 ?_ 0 (Nat.zero_le _) (show lv_has ls 6 [(0, .ref (am 0)), (1, .int (nI j0)), (2, .int (nI 0))] from lv_sub hl [1, 2, 0] rfl) hP hD hS
  intro a9 ls H locs hI hl hP hD hS ih_2
  obtain ⟨i, rfl⟩ : ∃ z, z = a9 := ⟨a9, rfl⟩
  have hI : i ≤ 160 := hI
  have hl : lv_has ls 6 [(0, .ref (am 0)), (1, .int (nI j0)), (2, .int (nI i))] := hl
  have hP : va_P D vwCl (wM am cI cZ N S q o ro t fo k (z.1, z.2.1, z.2.2.1, z.2.2.2.1, (mCf z.2.2.2.2.1 i), z.2.2.2.2.2.1, z.2.2.2.2.2.2.1, z.2.2.2.2.2.2.2)) H := hP
  have hD : va_D _ (wM am cI cZ N S q o ro t fo k (z.1, z.2.1, z.2.2.1, z.2.2.2.1, (mCf z.2.2.2.2.1 i), z.2.2.2.2.2.1, z.2.2.2.2.2.2.1, z.2.2.2.2.2.2.2)) := hD
  refine lv_iload_n hx hb dX10_goWalk_2 rfl (lv_at hl 2 rfl) ?_
  refine lv_sipush (v := 160) hx hb dX10_goWalk_3 (by decide) ?_
  refine lv_icmp_ge (tgt := 22) hx hb dX10_goWalk_6 (by decide) (fun c_1 => ?_) (fun c_1 => ?_)
  · skip
    have e160 : i = 160 := by have h9 : 160 ≤ i := zge (by have := hI; omega) (by decide) c_1; have := hI; omega
    subst e160
    have hP : va_P D vwCl (wM am cI cZ N S q o ro t fo k (z.1, z.2.1, z.2.2.1, z.2.2.2.1, (mCf z.2.2.2.2.1 160), z.2.2.2.2.2.1, z.2.2.2.2.2.2.1, z.2.2.2.2.2.2.2)) H := hP
    have hD : va_D _ (wM am cI cZ N S q o ro t fo k (z.1, z.2.1, z.2.2.1, z.2.2.2.1, (mCf z.2.2.2.2.1 160), z.2.2.2.2.2.1, z.2.2.2.2.2.2.1, z.2.2.2.2.2.2.2)) := hD
    have hl : lv_has ls 6 [(0, .ref (am 0)), (1, .int (nI j0)), (2, .int (nI 160))] := hl
    refine lv_iload_n hx hb dX10_goWalk_22 rfl (lv_at hl 1 rfl) ?_
    refine lv_istore_n (lv' := [(2, .int (nI j0)), (0, .ref (am 0)), (1, .int (nI j0))]) hx hb dX10_goWalk_23 rfl hl (by decide) rfl (fun ls hl => ?_)
    refine lv_iconst (v := (-1)) hx hb dX10_goWalk_24 (by decide) ?_
    refine lv_istore_n (lv' := [(3, .int (-1)), (2, .int (nI j0)), (0, .ref (am 0)), (1, .int (nI j0))]) hx hb dX10_goWalk_25 rfl hl (by decide) rfl (fun ls hl => ?_)
    refine lv_aload_n hx hb dX10_goWalk_26 rfl (lv_at hl 2 rfl) ?_
    refine lv_iconst (v := 0) hx hb dX10_goWalk_27 (by decide) ?_
    refine va_put (D := D) (ci := 10) (v := .int 0) (ty := .int) (C := RX10) (T := TX10) (N := 41) hx hb hts hin10 tyX10 tyX10_ok nmX10 hown hK.1 hP hD hS 0 rfl rfl 19 (by decide) (hts _ fl_X10_131) (fun _ h9 => h9) rfl (by decide +kernel) rfl rfl (Nat.le_of_ble_eq_true rfl) dX10_goWalk_28 (fun H locs hP hD hS => ?_)
    have hP : va_P D vwCl (wM am cI cZ N S q o ro t fo k (z.1, 0, z.2.2.1, z.2.2.2.1, (mCf z.2.2.2.2.1 160), z.2.2.2.2.2.1, z.2.2.2.2.2.2.1, z.2.2.2.2.2.2.2)) H := hP
    have hD : va_D _ (wM am cI cZ N S q o ro t fo k (z.1, 0, z.2.2.1, z.2.2.2.1, (mCf z.2.2.2.2.1 160), z.2.2.2.2.2.1, z.2.2.2.2.2.2.1, z.2.2.2.2.2.2.2)) := hD
    refine lv_aload_n hx hb dX10_goWalk_31 rfl (lv_at hl 2 rfl) ?_
    refine lv_iconst (v := 0) hx hb dX10_goWalk_32 (by decide) ?_
    refine va_put (D := D) (ci := 10) (v := .int 0) (ty := .int) (C := RX10) (T := TX10) (N := 41) hx hb hts hin10 tyX10 tyX10_ok nmX10 hown hK.1 hP hD hS 0 rfl rfl 20 (by decide) (hts _ fl_X10_134) (fun _ h9 => h9) rfl (by decide +kernel) rfl rfl (Nat.le_of_ble_eq_true rfl) dX10_goWalk_33 (fun H locs hP hD hS => ?_)
    have hP : va_P D vwCl (wM am cI cZ N S q o ro t fo k (z.1, 0, 0, z.2.2.2.1, (mCf z.2.2.2.2.1 160), z.2.2.2.2.2.1, z.2.2.2.2.2.2.1, z.2.2.2.2.2.2.2)) H := hP
    have hD : va_D _ (wM am cI cZ N S q o ro t fo k (z.1, 0, 0, z.2.2.2.1, (mCf z.2.2.2.2.1 160), z.2.2.2.2.2.1, z.2.2.2.2.2.2.1, z.2.2.2.2.2.2.2)) := hD
    refine lv_aload_n hx hb dX10_goWalk_36 rfl (lv_at hl 2 rfl) ?_
    refine va_get (D := D) (ci := 10) (v := .ref (am 12)) (C := RX10) (T := TX10) (N := 41) hx hb hts hin10 hown hK.1 hP 0 rfl rfl 21 (by decide) (hts _ fl_X10_48) (fun _ h9 => h9) rfl dX10_goWalk_37 ?_
    refine lv_iconst (v := 0) hx hb dX10_goWalk_40 (by decide) ?_
    refine lv_iload_n hx hb dX10_goWalk_41 rfl (lv_at hl 3 rfl) ?_
    refine z_iast hx hb hK.1 hP hD hS 12 0 rfl rfl 0 rfl (by decide) (by decide)  dX10_goWalk_42 (fun H locs hP hD hS => ?_)
    have hP : va_P D vwCl (wM am cI cZ N S q o ro t fo k (z.1, 0, 0, (upd z.2.2.2.1 0 (nI j0)), (mCf z.2.2.2.2.1 160), z.2.2.2.2.2.1, z.2.2.2.2.2.2.1, z.2.2.2.2.2.2.2)) H := hP
    have hD : va_D _ (wM am cI cZ N S q o ro t fo k (z.1, 0, 0, (upd z.2.2.2.1 0 (nI j0)), (mCf z.2.2.2.2.1 160), z.2.2.2.2.2.1, z.2.2.2.2.2.2.1, z.2.2.2.2.2.2.2)) := hD
    refine lv_aload_n hx hb dX10_goWalk_43 rfl (lv_at hl 2 rfl) ?_
    refine lv_iconst (v := (-1)) hx hb dX10_goWalk_44 (by decide) ?_
    refine va_put (D := D) (ci := 10) (v := .int (-1)) (ty := .int) (C := RX10) (T := TX10) (N := 41) hx hb hts hin10 tyX10 tyX10_ok nmX10 hown hK.1 hP hD hS 0 rfl rfl 18 (by decide) (hts _ fl_X10_137) (fun _ h9 => h9) rfl (by decide +kernel) rfl rfl (Nat.le_of_ble_eq_true rfl) dX10_goWalk_45 (fun H locs hP hD hS => ?_)
    have hP : va_P D vwCl (wM am cI cZ N S q o ro t fo k ((-1), 0, 0, (upd z.2.2.2.1 0 (nI j0)), (mCf z.2.2.2.2.1 160), z.2.2.2.2.2.1, z.2.2.2.2.2.2.1, z.2.2.2.2.2.2.2)) H := hP
    have hD : va_D _ (wM am cI cZ N S q o ro t fo k ((-1), 0, 0, (upd z.2.2.2.1 0 (nI j0)), (mCf z.2.2.2.2.1 160), z.2.2.2.2.2.1, z.2.2.2.2.2.2.1, z.2.2.2.2.2.2.2)) := hD
    refine w_loopH (α := Nat × Nat × Int32 × (Nat → Int32) × (Nat → Int32) × Int32 × Int32) (fun a9 => a9.1 ≤ 30 ∧ a9.2.1 < 10 ∧ mCm N a9.2.2.1 ∧ (a9.2.2.2.2.2.2 = -1 → mWk S q N (30 - a9.1) a9.1 (nI a9.2.1, a9.2.2.1, a9.2.2.2.1, a9.2.2.2.2.1, a9.2.2.2.2.2.1) = (mWalk S q N z (nI j0))) ∧ (¬ a9.2.2.2.2.2.2 = -1 → (a9.2.2.2.2.2.2, a9.1, a9.2.2.2.2.2.1, a9.2.2.2.2.1, a9.2.2.2.1) = (mWalk S q N z (nI j0)))) (fun a9 => 31 - a9.1 + (if a9.2.2.2.2.2.2 = -1 then 1 else 0)) (fun a9 => wM am cI cZ N S q o ro t fo k (a9.2.2.2.2.2.2, (nI a9.1), a9.2.2.2.2.2.1, a9.2.2.2.2.1, a9.2.2.2.1, z.2.2.2.2.2.1, z.2.2.2.2.2.2.1, z.2.2.2.2.2.2.2)) (fun a9 => [(0, .ref (am 0)), (1, .int (nI j0)), (2, .int (nI a9.2.1)), (3, .int a9.2.2.1)]) 48 6 ?_ (0, j0, (-1), (mCf z.2.2.2.2.1 160), (upd z.2.2.2.1 0 (nI j0)), 0, (-1)) (⟨Nat.zero_le _, hj0, Or.inl rfl, fun _ => rfl, fun h9 => absurd rfl h9⟩) (show lv_has ls 6 [(0, .ref (am 0)), (1, .int (nI j0)), (2, .int (nI j0)), (3, .int (-1))] from lv_sub hl [2, 3, 1, 0] rfl) hP hD hS
    intro a9 ls H locs hI hl hP hD hS ih_48
    obtain ⟨i, a, pa, cf, wa, le, en⟩ := a9
    have hI : i ≤ 30 ∧ a < 10 ∧ mCm N pa ∧ (en = -1 → mWk S q N (30 - i) i (nI a, pa, cf, wa, le) = (mWalk S q N z (nI j0))) ∧ (¬ en = -1 → (en, i, le, wa, cf) = (mWalk S q N z (nI j0))) := hI
    have hl : lv_has ls 6 [(0, .ref (am 0)), (1, .int (nI j0)), (2, .int (nI a)), (3, .int pa)] := hl
    have hP : va_P D vwCl (wM am cI cZ N S q o ro t fo k (en, (nI i), le, wa, cf, z.2.2.2.2.2.1, z.2.2.2.2.2.2.1, z.2.2.2.2.2.2.2)) H := hP
    have hD : va_D _ (wM am cI cZ N S q o ro t fo k (en, (nI i), le, wa, cf, z.2.2.2.2.2.1, z.2.2.2.2.2.2.1, z.2.2.2.2.2.2.2)) := hD
    obtain ⟨hi30, ha, hpa, hrun, hend⟩ := hI
    refine lv_aload_n hx hb dX10_goWalk_48 rfl (lv_at hl 0 rfl) ?_
    refine va_get (D := D) (ci := 10) (v := .int en) (C := RX10) (T := TX10) (N := 41) hx hb hts hin10 hown hK.1 hP 0 rfl rfl 18 (by decide) (hts _ fl_X10_137) (fun _ h9 => h9) rfl dX10_goWalk_49 ?_
    refine lv_iconst (v := (-1)) hx hb dX10_goWalk_52 (by decide) ?_
    refine lv_icmp_ne (tgt := 225) hx hb dX10_goWalk_53 (by decide) (fun c_2 => ?_) (fun c_2 => ?_)
    · skip
      exact mu_vret hx hb hr hlocks (()) (trivial) (by show va_P D vwCl (wM am cI cZ N S q o ro t fo k (mZw z (mWalk S q N z (nI j0)))) _; rw [← hend c_2]; exact hP) hS dX10_goWalk_225
    · skip
      refine lv_aload_n hx hb dX10_goWalk_56 rfl (lv_at hl 0 rfl) ?_
      refine lv_iload_n hx hb dX10_goWalk_57 rfl (lv_at hl 2 rfl) ?_
      refine lv_iload_n hx hb dX10_goWalk_58 rfl (lv_at hl 3 rfl) ?_
      refine ro_V (As := [.int (nI a), .int pa]) (rest := []) ⟨hx, hb, hml, hown, hts⟩ (c_X10_goesBy l D cI cZ am N hN16 S hS24 q o ho8 ro hr10 t ht6 fo hf5 k hk8 (en, (nI i), le, wa, cf, z.2.2.2.2.2.1, z.2.2.2.2.2.2.1, z.2.2.2.2.2.2.2) (nI a) pa hpa) (cw_X10_140 hts rfl rfl ⟨Nat.le_of_ble_eq_true rfl, Nat.le_of_ble_eq_true rfl⟩) hK hP (ci := 10) rfl rfl rfl hl.1 rfl (Nat.le_of_ble_eq_true rfl) dX10_goWalk_59 ⟨Nat.zero_le _, Nat.zero_le _⟩ ?_
      refine lv_istore (lv' := [(4, .int (mGo S q N (nI a) pa)), (0, .ref (am 0)), (1, .int (nI j0)), (2, .int (nI a)), (3, .int pa)]) hx hb dX10_goWalk_62 hl (by decide) rfl (fun ls hl => ?_)
      refine lv_iload_n hx hb dX10_goWalk_64 rfl (lv_at hl 4 rfl) ?_
      refine lv_iconst (v := (-1)) hx hb dX10_goWalk_65 (by decide) ?_
      refine lv_icmp_eq (tgt := 87) hx hb dX10_goWalk_66 (by decide) (fun c_3 => ?_) (fun c_3 => ?_)
      · skip
        refine lv_iconst (v := 0) hx hb dX10_goWalk_87 (by decide) ?_
        refine lv_istore (lv' := [(5, .int 0), (4, .int (mGo S q N (nI a) pa)), (0, .ref (am 0)), (1, .int (nI j0)), (2, .int (nI a)), (3, .int pa)]) hx hb dX10_goWalk_88 hl (by decide) rfl (fun ls hl => ?_)
        refine lv_iload_n hx hb dX10_goWalk_90 rfl (lv_at hl 5 rfl) ?_
        refine lv_iconst (v := (-1)) hx hb dX10_goWalk_91 (by decide) ?_
        refine lv_icmp_eq (tgt := 107) hx hb dX10_goWalk_92 (by decide) (fun c_4 => ?_) (fun c_4 => ?_)
        · skip
          have hcs : mCs (nI a) pa cf = cf := by unfold mCs; rw [if_pos c_3]
          have hag : ¬ (¬ pa = -1 ∧ ¬ cf (mCi (nI a) pa) = 0) := fun z9 => z9.1 c_3
          refine lv_iload hx hb dX10_goWalk_107 (lv_at hl 1 rfl) ?_
          refine lv_bipush (v := (-2)) hx hb dX10_goWalk_109 (by decide) ?_
          refine lv_icmp_ne (tgt := 122) hx hb dX10_goWalk_111 (by decide) (fun c_5 => ?_) (fun c_5 => ?_)
          · skip
            refine lv_iload hx hb dX10_goWalk_122 (lv_at hl 0 rfl) ?_
            refine lv_if_eq (tgt := 135) hx hb dX10_goWalk_124 (by decide) (fun _ => ?_) (fun c_6 => absurd c_6 (by decide))
            refine lv_iload hx hb dX10_goWalk_135 (lv_at hl 1 rfl) ?_
            refine lv_if_ge (tgt := 159) hx hb dX10_goWalk_137 (by decide) (fun c_7 => ?_) (fun c_7 => ?_)
            · skip
              obtain ⟨u, hu, eu⟩ := mGo_cm hSV (by omega) (Int32.not_lt.mpr c_7)
              have hl : lv_has ls 6 [(5, .int 0), (4, .int (nI u)), (0, .ref (am 0)), (1, .int (nI j0)), (2, .int (nI a)), (3, .int pa)] := by rw [← eu]; exact hl
              refine lv_aload_n hx hb dX10_goWalk_159 rfl (lv_at hl 2 rfl) ?_
              refine va_get (D := D) (ci := 10) (v := .int (nI i)) (C := RX10) (T := TX10) (N := 41) hx hb hts hin10 hown hK.1 hP 0 rfl rfl 19 (by decide) (hts _ fl_X10_131) (fun _ h9 => h9) rfl dX10_goWalk_160 ?_
              refine lv_bipush (v := 30) hx hb dX10_goWalk_163 (by decide) ?_
              refine lv_icmp_ne (tgt := 176) hx hb dX10_goWalk_165 (by decide) (fun c_8 => ?_) (fun c_8 => ?_)
              · skip
                have hk30 : i < 30 := by have h9 : i ≠ 30 := fun q9 => c_8 (by rw [q9]; rfl); omega
                refine lv_aload_n hx hb dX10_goWalk_176 rfl (lv_at hl 2 rfl) ?_
                refine lv_iload hx hb dX10_goWalk_177 (lv_at hl 1 rfl) ?_
                refine lv_iload_n hx hb dX10_goWalk_179 rfl (lv_at hl 4 rfl) ?_
                refine ro_V (As := [.int (nI u), .int (nI a)]) (rest := []) ⟨hx, hb, hml, hown, hts⟩ (c_X10_otherEnd l D cI cZ am N hN16 S hS24 q o ho8 ro hr10 t ht6 fo hf5 k hk8 (en, (nI i), le, wa, cf, z.2.2.2.2.2.1, z.2.2.2.2.2.2.1, z.2.2.2.2.2.2.2) u (show u < 16 by omega) (nI a)) (cw_X10_143 hts rfl rfl ⟨Nat.le_of_ble_eq_true rfl, Nat.le_of_ble_eq_true rfl⟩) hK hP (ci := 10) rfl rfl rfl hl.1 rfl (Nat.le_of_ble_eq_true rfl) dX10_goWalk_180 ⟨Nat.zero_le _, Nat.zero_le _⟩ ?_
                refine lv_istore_n (lv' := [(2, .int (mOE N u (nI a))), (5, .int 0), (4, .int (nI u)), (0, .ref (am 0)), (1, .int (nI j0)), (3, .int pa)]) hx hb dX10_goWalk_183 rfl hl (by decide) rfl (fun ls hl => ?_)
                refine lv_iload hx hb dX10_goWalk_184 (lv_at hl 2 rfl) ?_
                refine lv_istore_n (lv' := [(3, .int (nI u)), (2, .int (mOE N u (nI a))), (5, .int 0), (4, .int (nI u)), (0, .ref (am 0)), (1, .int (nI j0))]) hx hb dX10_goWalk_186 rfl hl (by decide) rfl (fun ls hl => ?_)
                refine lv_aload_n hx hb dX10_goWalk_187 rfl (lv_at hl 4 rfl) ?_
                refine lv_dup hx hb dX10_goWalk_188 rfl ?_
                refine va_get (D := D) (ci := 10) (v := .int (nI i)) (C := RX10) (T := TX10) (N := 41) hx hb hts hin10 hown hK.1 hP 0 rfl rfl 19 (by decide) (hts _ fl_X10_131) (fun _ h9 => h9) rfl dX10_goWalk_189 ?_
                refine lv_iconst (v := 1) hx hb dX10_goWalk_192 (by decide) ?_
                refine lv_iadd hx hb dX10_goWalk_193 ?_
                rw [nI_1 i]
                refine va_put (D := D) (ci := 10) (v := .int (nI (i + 1))) (ty := .int) (C := RX10) (T := TX10) (N := 41) hx hb hts hin10 tyX10 tyX10_ok nmX10 hown hK.1 hP hD hS 0 rfl rfl 19 (by decide) (hts _ fl_X10_131) (fun _ h9 => h9) rfl (by decide +kernel) rfl rfl (Nat.le_of_ble_eq_true rfl) dX10_goWalk_194 (fun H locs hP hD hS => ?_)
                have hP : va_P D vwCl (wM am cI cZ N S q o ro t fo k (en, (nI (i + 1)), le, wa, cf, z.2.2.2.2.2.1, z.2.2.2.2.2.2.1, z.2.2.2.2.2.2.2)) H := hP
                have hD : va_D _ (wM am cI cZ N S q o ro t fo k (en, (nI (i + 1)), le, wa, cf, z.2.2.2.2.2.1, z.2.2.2.2.2.2.1, z.2.2.2.2.2.2.2)) := hD
                refine lv_aload_n hx hb dX10_goWalk_197 rfl (lv_at hl 4 rfl) ?_
                refine lv_dup hx hb dX10_goWalk_198 rfl ?_
                refine va_get (D := D) (ci := 10) (v := .int le) (C := RX10) (T := TX10) (N := 41) hx hb hts hin10 hown hK.1 hP 0 rfl rfl 20 (by decide) (hts _ fl_X10_134) (fun _ h9 => h9) rfl dX10_goWalk_199 ?_
                refine lv_aload_n hx hb dX10_goWalk_202 rfl (lv_at hl 4 rfl) ?_
                refine va_get (D := D) (ci := 10) (v := .ref (am 3)) (C := RX10) (T := TX10) (N := 41) hx hb hts hin10 hown hK.1 hP 0 rfl rfl 3 (by decide) (hts _ fl_X10_16) (fun _ h9 => h9) rfl dX10_goWalk_203 ?_
                refine lv_iload_n hx hb dX10_goWalk_206 rfl (lv_at hl 0 rfl) ?_
                refine z_iald hx hb hK.1 hP 3 0 rfl rfl u rfl (show u < 16 by omega) (by decide) dX10_goWalk_207 ?_
                refine lv_iadd hx hb dX10_goWalk_208 ?_
                refine va_put (D := D) (ci := 10) (v := .int (le + ((N_l N) u))) (ty := .int) (C := RX10) (T := TX10) (N := 41) hx hb hts hin10 tyX10 tyX10_ok nmX10 hown hK.1 hP hD hS 0 rfl rfl 20 (by decide) (hts _ fl_X10_134) (fun _ h9 => h9) rfl (by decide +kernel) rfl rfl (Nat.le_of_ble_eq_true rfl) dX10_goWalk_209 (fun H locs hP hD hS => ?_)
                have hP : va_P D vwCl (wM am cI cZ N S q o ro t fo k (en, (nI (i + 1)), (le + ((N_l N) u)), wa, cf, z.2.2.2.2.2.1, z.2.2.2.2.2.2.1, z.2.2.2.2.2.2.2)) H := hP
                have hD : va_D _ (wM am cI cZ N S q o ro t fo k (en, (nI (i + 1)), (le + ((N_l N) u)), wa, cf, z.2.2.2.2.2.1, z.2.2.2.2.2.2.1, z.2.2.2.2.2.2.2)) := hD
                obtain ⟨a2, ha2, ea2⟩ := mOE_ne hNE hu (nI a)
                have hl : lv_has ls 6 [(3, .int (nI u)), (2, .int (nI a2)), (5, .int 0), (4, .int (nI u)), (0, .ref (am 0)), (1, .int (nI j0))] := by rw [← ea2]; exact hl
                refine lv_aload_n hx hb dX10_goWalk_212 rfl (lv_at hl 4 rfl) ?_
                refine va_get (D := D) (ci := 10) (v := .ref (am 12)) (C := RX10) (T := TX10) (N := 41) hx hb hts hin10 hown hK.1 hP 0 rfl rfl 21 (by decide) (hts _ fl_X10_48) (fun _ h9 => h9) rfl dX10_goWalk_213 ?_
                refine lv_aload_n hx hb dX10_goWalk_216 rfl (lv_at hl 4 rfl) ?_
                refine va_get (D := D) (ci := 10) (v := .int (nI (i + 1))) (C := RX10) (T := TX10) (N := 41) hx hb hts hin10 hown hK.1 hP 0 rfl rfl 19 (by decide) (hts _ fl_X10_131) (fun _ h9 => h9) rfl dX10_goWalk_217 ?_
                refine lv_iload_n hx hb dX10_goWalk_220 rfl (lv_at hl 1 rfl) ?_
                refine z_iast hx hb hK.1 hP hD hS 12 0 rfl rfl (i + 1) rfl (show i + 1 < 32 by omega) (by decide)  dX10_goWalk_221 (fun H locs hP hD hS => ?_)
                have hP : va_P D vwCl (wM am cI cZ N S q o ro t fo k (en, (nI (i + 1)), (le + ((N_l N) u)), (upd wa (i + 1) (nI a2)), cf, z.2.2.2.2.2.1, z.2.2.2.2.2.2.1, z.2.2.2.2.2.2.2)) H := hP
                have hD : va_D _ (wM am cI cZ N S q o ro t fo k (en, (nI (i + 1)), (le + ((N_l N) u)), (upd wa (i + 1) (nI a2)), cf, z.2.2.2.2.2.1, z.2.2.2.2.2.2.1, z.2.2.2.2.2.2.2)) := hD
                refine lv_goto (tgt := 48) hx hb dX10_goWalk_222 (by decide) ?_
                exact ih_48 ((i + 1), a2, (nI u), cf, (upd wa (i + 1) (nI a2)), (le + ((N_l N) u)), en) ls H locs (show (i + 1) ≤ 30 ∧ a2 < 10 ∧ mCm N (nI u) ∧ (en = -1 → mWk S q N (30 - (i + 1)) (i + 1) (nI a2, (nI u), cf, (upd wa (i + 1) (nI a2)), (le + ((N_l N) u))) = (mWalk S q N z (nI j0))) ∧ (¬ en = -1 → (en, (i + 1), (le + ((N_l N) u)), (upd wa (i + 1) (nI a2)), cf) = (mWalk S q N z (nI j0))) from (⟨by omega, ha2, Or.inr ⟨u, hu, rfl⟩, fun _ => (by
                          obtain ⟨n9, hn9⟩ : ∃ n9, 30 - i = n9 + 1 := ⟨29 - i, by omega⟩
                          rw [← hrun c_2, hn9, show 30 - (i + 1) = n9 by omega, mWk_s (by unfold mEn; dsimp only; rw [if_neg c_5, if_neg hag, if_neg (Int32.not_lt.mpr c_7)]; rfl)]
                          unfold mStp mOe9; dsimp only; rw [eu, nI_cl (by omega), hcs, ea2]), fun h9 => absurd c_2 h9⟩)) (show 31 - (i + 1) + (if en = -1 then 1 else 0) < 31 - i + (if en = -1 then 1 else 0) from by rw [if_pos c_2]; omega) (show lv_has ls 6 [(0, .ref (am 0)), (1, .int (nI j0)), (2, .int (nI a2)), (3, .int (nI u))] from lv_sub hl [4, 5, 1, 0] rfl) hP hD hS
              · skip
                have hk30 : i = 30 := by have h9 : nI i = nI 30 := c_8; rw [nI_eq (by omega) (by omega)] at h9; exact h9
                refine lv_aload_n hx hb dX10_goWalk_168 rfl (lv_at hl 2 rfl) ?_
                refine lv_iconst (v := 4) hx hb dX10_goWalk_169 (by decide) ?_
                refine va_put (D := D) (ci := 10) (v := .int 4) (ty := .int) (C := RX10) (T := TX10) (N := 41) hx hb hts hin10 tyX10 tyX10_ok nmX10 hown hK.1 hP hD hS 0 rfl rfl 18 (by decide) (hts _ fl_X10_137) (fun _ h9 => h9) rfl (by decide +kernel) rfl rfl (Nat.le_of_ble_eq_true rfl) dX10_goWalk_170 (fun H locs hP hD hS => ?_)
                have hP : va_P D vwCl (wM am cI cZ N S q o ro t fo k (4, (nI i), le, wa, cf, z.2.2.2.2.2.1, z.2.2.2.2.2.2.1, z.2.2.2.2.2.2.2)) H := hP
                have hD : va_D _ (wM am cI cZ N S q o ro t fo k (4, (nI i), le, wa, cf, z.2.2.2.2.2.1, z.2.2.2.2.2.2.1, z.2.2.2.2.2.2.2)) := hD
                refine lv_goto (tgt := 222) hx hb dX10_goWalk_173 (by decide) ?_
                refine lv_goto (tgt := 48) hx hb dX10_goWalk_222 (by decide) ?_
                exact ih_48 (i, a, pa, cf, wa, le, 4) ls H locs (show i ≤ 30 ∧ a < 10 ∧ mCm N pa ∧ (4 = -1 → mWk S q N (30 - i) i (nI a, pa, cf, wa, le) = (mWalk S q N z (nI j0))) ∧ (¬ 4 = -1 → (4, i, le, wa, cf) = (mWalk S q N z (nI j0))) from ⟨by omega, ha, hpa, fun h9 => absurd h9 (by decide), fun _ => by rw [← hrun c_2, mWk_e (e := 4) (by unfold mEn; dsimp only; rw [if_neg c_5, if_neg hag, if_neg (Int32.not_lt.mpr c_7), if_pos (decide_eq_true (show 30 - i = 0 by omega))]) (by decide)]; dsimp only; rw [hcs]⟩) (show 31 - i + (if 4 = -1 then 1 else 0) < 31 - i + (if en = -1 then 1 else 0) from by rw [if_pos c_2, if_neg (by decide)]; omega) (show lv_has ls 6 [(0, .ref (am 0)), (1, .int (nI j0)), (2, .int (nI a)), (3, .int pa)] from lv_sub hl [2, 3, 4, 5] rfl) hP hD hS
            · skip
              refine lv_aload_n hx hb dX10_goWalk_140 rfl (lv_at hl 2 rfl) ?_
              refine lv_iload hx hb dX10_goWalk_141 (lv_at hl 1 rfl) ?_
              refine lv_bipush (v := (-3)) hx hb dX10_goWalk_143 (by decide) ?_
              refine lv_icmp_ne (tgt := 152) hx hb dX10_goWalk_145 (by decide) (fun c_9 => ?_) (fun c_9 => ?_)
              · skip
                refine lv_iconst (v := 0) hx hb dX10_goWalk_152 (by decide) ?_
                refine va_put (D := D) (ci := 10) (v := .int 0) (ty := .int) (C := RX10) (T := TX10) (N := 41) hx hb hts hin10 tyX10 tyX10_ok nmX10 hown hK.1 hP hD hS 0 rfl rfl 18 (by decide) (hts _ fl_X10_137) (fun _ h9 => h9) rfl (by decide +kernel) rfl rfl (Nat.le_of_ble_eq_true rfl) dX10_goWalk_153 (fun H locs hP hD hS => ?_)
                have hP : va_P D vwCl (wM am cI cZ N S q o ro t fo k (0, (nI i), le, wa, cf, z.2.2.2.2.2.1, z.2.2.2.2.2.2.1, z.2.2.2.2.2.2.2)) H := hP
                have hD : va_D _ (wM am cI cZ N S q o ro t fo k (0, (nI i), le, wa, cf, z.2.2.2.2.2.1, z.2.2.2.2.2.2.1, z.2.2.2.2.2.2.2)) := hD
                refine lv_goto (tgt := 222) hx hb dX10_goWalk_156 (by decide) ?_
                refine lv_goto (tgt := 48) hx hb dX10_goWalk_222 (by decide) ?_
                exact ih_48 (i, a, pa, cf, wa, le, 0) ls H locs (show i ≤ 30 ∧ a < 10 ∧ mCm N pa ∧ (0 = -1 → mWk S q N (30 - i) i (nI a, pa, cf, wa, le) = (mWalk S q N z (nI j0))) ∧ (¬ 0 = -1 → (0, i, le, wa, cf) = (mWalk S q N z (nI j0))) from ⟨by omega, ha, hpa, fun h9 => absurd h9 (by decide), fun _ => by rw [← hrun c_2, mWk_e (e := 0) (by unfold mEn; dsimp only; rw [if_neg c_5, if_neg hag, if_pos (Int32.not_le.mp c_7), if_neg c_9]) (by decide)]; dsimp only; rw [hcs]⟩) (show 31 - i + (if 0 = -1 then 1 else 0) < 31 - i + (if en = -1 then 1 else 0) from by rw [if_pos c_2, if_neg (by decide)]; omega) (show lv_has ls 6 [(0, .ref (am 0)), (1, .int (nI j0)), (2, .int (nI a)), (3, .int pa)] from lv_sub hl [2, 3, 4, 5] rfl) hP hD hS
              · skip
                refine lv_iconst (v := 1) hx hb dX10_goWalk_148 (by decide) ?_
                refine lv_goto (tgt := 153) hx hb dX10_goWalk_149 (by decide) ?_
                refine va_put (D := D) (ci := 10) (v := .int 1) (ty := .int) (C := RX10) (T := TX10) (N := 41) hx hb hts hin10 tyX10 tyX10_ok nmX10 hown hK.1 hP hD hS 0 rfl rfl 18 (by decide) (hts _ fl_X10_137) (fun _ h9 => h9) rfl (by decide +kernel) rfl rfl (Nat.le_of_ble_eq_true rfl) dX10_goWalk_153 (fun H locs hP hD hS => ?_)
                have hP : va_P D vwCl (wM am cI cZ N S q o ro t fo k (1, (nI i), le, wa, cf, z.2.2.2.2.2.1, z.2.2.2.2.2.2.1, z.2.2.2.2.2.2.2)) H := hP
                have hD : va_D _ (wM am cI cZ N S q o ro t fo k (1, (nI i), le, wa, cf, z.2.2.2.2.2.1, z.2.2.2.2.2.2.1, z.2.2.2.2.2.2.2)) := hD
                refine lv_goto (tgt := 222) hx hb dX10_goWalk_156 (by decide) ?_
                refine lv_goto (tgt := 48) hx hb dX10_goWalk_222 (by decide) ?_
                exact ih_48 (i, a, pa, cf, wa, le, 1) ls H locs (show i ≤ 30 ∧ a < 10 ∧ mCm N pa ∧ (1 = -1 → mWk S q N (30 - i) i (nI a, pa, cf, wa, le) = (mWalk S q N z (nI j0))) ∧ (¬ 1 = -1 → (1, i, le, wa, cf) = (mWalk S q N z (nI j0))) from ⟨by omega, ha, hpa, fun h9 => absurd h9 (by decide), fun _ => by rw [← hrun c_2, mWk_e (e := 1) (by unfold mEn; dsimp only; rw [if_neg c_5, if_neg hag, if_pos (Int32.not_le.mp c_7), if_pos c_9]) (by decide)]; dsimp only; rw [hcs]⟩) (show 31 - i + (if 1 = -1 then 1 else 0) < 31 - i + (if en = -1 then 1 else 0) from by rw [if_pos c_2, if_neg (by decide)]; omega) (show lv_has ls 6 [(0, .ref (am 0)), (1, .int (nI j0)), (2, .int (nI a)), (3, .int pa)] from lv_sub hl [2, 3, 4, 5] rfl) hP hD hS
          · skip
            refine lv_aload_n hx hb dX10_goWalk_114 rfl (lv_at hl 2 rfl) ?_
            refine lv_iconst (v := 2) hx hb dX10_goWalk_115 (by decide) ?_
            refine va_put (D := D) (ci := 10) (v := .int 2) (ty := .int) (C := RX10) (T := TX10) (N := 41) hx hb hts hin10 tyX10 tyX10_ok nmX10 hown hK.1 hP hD hS 0 rfl rfl 18 (by decide) (hts _ fl_X10_137) (fun _ h9 => h9) rfl (by decide +kernel) rfl rfl (Nat.le_of_ble_eq_true rfl) dX10_goWalk_116 (fun H locs hP hD hS => ?_)
            have hP : va_P D vwCl (wM am cI cZ N S q o ro t fo k (2, (nI i), le, wa, cf, z.2.2.2.2.2.1, z.2.2.2.2.2.2.1, z.2.2.2.2.2.2.2)) H := hP
            have hD : va_D _ (wM am cI cZ N S q o ro t fo k (2, (nI i), le, wa, cf, z.2.2.2.2.2.1, z.2.2.2.2.2.2.1, z.2.2.2.2.2.2.2)) := hD
            refine lv_goto (tgt := 222) hx hb dX10_goWalk_119 (by decide) ?_
            refine lv_goto (tgt := 48) hx hb dX10_goWalk_222 (by decide) ?_
            exact ih_48 (i, a, pa, cf, wa, le, 2) ls H locs (show i ≤ 30 ∧ a < 10 ∧ mCm N pa ∧ (2 = -1 → mWk S q N (30 - i) i (nI a, pa, cf, wa, le) = (mWalk S q N z (nI j0))) ∧ (¬ 2 = -1 → (2, i, le, wa, cf) = (mWalk S q N z (nI j0))) from ⟨by omega, ha, hpa, fun h9 => absurd h9 (by decide), fun _ => by rw [← hrun c_2, mWk_e (e := 2) (by unfold mEn; dsimp only; rw [if_pos c_5]) (by decide)]; dsimp only; rw [hcs]⟩) (show 31 - i + (if 2 = -1 then 1 else 0) < 31 - i + (if en = -1 then 1 else 0) from by rw [if_pos c_2, if_neg (by decide)]; omega) (show lv_has ls 6 [(0, .ref (am 0)), (1, .int (nI j0)), (2, .int (nI a)), (3, .int pa)] from lv_sub hl [2, 3, 4, 5] rfl) hP hD hS
        · skip
          exact absurd c_3 c_4
      · skip
        obtain ⟨j, hj, ej⟩ := hpa.resolve_left c_3
        have hix : (16 : Int32) * nI a + pa = nI (16 * a + j) := by rw [ej, show (16 : Int32) * nI a = nI (16 * a) from pk_mul 16 a, nI_add]
        have hci : mCi (nI a) pa = 16 * a + j := by unfold mCi; rw [ej, nI_cl (by omega), nI_cl (by omega)]
        have hj160 : 16 * a + j < 160 := by omega
        refine lv_aload_n hx hb dX10_goWalk_69 rfl (lv_at hl 1 rfl) ?_
        refine va_get (D := D) (ci := 10) (v := .ref (am 13)) (C := RX10) (T := TX10) (N := 41) hx hb hts hin10 hown hK.1 hP 0 rfl rfl 22 (by decide) (hts _ fl_X10_51) (fun _ h9 => h9) rfl dX10_goWalk_70 ?_
        refine lv_bipush (v := 16) hx hb dX10_goWalk_73 (by decide) ?_
        refine lv_iload_n hx hb dX10_goWalk_75 rfl (lv_at hl 3 rfl) ?_
        refine lv_imul hx hb dX10_goWalk_76 ?_
        refine lv_iload_n hx hb dX10_goWalk_77 rfl (lv_at hl 4 rfl) ?_
        refine lv_iadd hx hb dX10_goWalk_78 ?_
        refine z_zald hx hb hK.1 hP 13 1 rfl rfl (16 * a + j) hix hj160 (by decide) dX10_goWalk_79 ?_
        refine lv_if_eq (tgt := 87) hx hb dX10_goWalk_80 (by decide) (fun c_10 => ?_) (fun c_10 => ?_)
        · skip
          refine lv_iconst (v := 0) hx hb dX10_goWalk_87 (by decide) ?_
          refine lv_istore (lv' := [(5, .int 0), (4, .int (mGo S q N (nI a) pa)), (0, .ref (am 0)), (1, .int (nI j0)), (2, .int (nI a)), (3, .int pa)]) hx hb dX10_goWalk_88 hl (by decide) rfl (fun ls hl => ?_)
          refine lv_iload_n hx hb dX10_goWalk_90 rfl (lv_at hl 5 rfl) ?_
          refine lv_iconst (v := (-1)) hx hb dX10_goWalk_91 (by decide) ?_
          refine lv_icmp_eq (tgt := 107) hx hb dX10_goWalk_92 (by decide) (fun c_11 => ?_) (fun c_11 => ?_)
          · skip
            exact absurd c_11 c_3
          · skip
            refine lv_aload_n hx hb dX10_goWalk_95 rfl (lv_at hl 2 rfl) ?_
            refine va_get (D := D) (ci := 10) (v := .ref (am 13)) (C := RX10) (T := TX10) (N := 41) hx hb hts hin10 hown hK.1 hP 0 rfl rfl 22 (by decide) (hts _ fl_X10_51) (fun _ h9 => h9) rfl dX10_goWalk_96 ?_
            refine lv_bipush (v := 16) hx hb dX10_goWalk_99 (by decide) ?_
            refine lv_iload_n hx hb dX10_goWalk_101 rfl (lv_at hl 4 rfl) ?_
            refine lv_imul hx hb dX10_goWalk_102 ?_
            refine lv_iload_n hx hb dX10_goWalk_103 rfl (lv_at hl 5 rfl) ?_
            refine lv_iadd hx hb dX10_goWalk_104 ?_
            refine lv_iconst (v := 1) hx hb dX10_goWalk_105 (by decide) ?_
            refine z_zast hx hb hK.1 hP hD hS 13 1 rfl rfl (16 * a + j) hix hj160 (by decide) rfl dX10_goWalk_106 (fun H locs hP hD hS => ?_)
            have hP : va_P D vwCl (wM am cI cZ N S q o ro t fo k (en, (nI i), le, wa, (upd cf (16 * a + j) 1), z.2.2.2.2.2.1, z.2.2.2.2.2.2.1, z.2.2.2.2.2.2.2)) H := hP
            have hD : va_D _ (wM am cI cZ N S q o ro t fo k (en, (nI i), le, wa, (upd cf (16 * a + j) 1), z.2.2.2.2.2.1, z.2.2.2.2.2.2.1, z.2.2.2.2.2.2.2)) := hD
            have hcs : mCs (nI a) pa cf = (upd cf (16 * a + j) 1) := by unfold mCs; rw [if_neg c_3, hci]
            have hag : ¬ (¬ pa = -1 ∧ ¬ cf (mCi (nI a) pa) = 0) := fun z9 => z9.2 (by rw [hci]; exact c_10)
            refine lv_iload hx hb dX10_goWalk_107 (lv_at hl 1 rfl) ?_
            refine lv_bipush (v := (-2)) hx hb dX10_goWalk_109 (by decide) ?_
            refine lv_icmp_ne (tgt := 122) hx hb dX10_goWalk_111 (by decide) (fun c_12 => ?_) (fun c_12 => ?_)
            · skip
              refine lv_iload hx hb dX10_goWalk_122 (lv_at hl 0 rfl) ?_
              refine lv_if_eq (tgt := 135) hx hb dX10_goWalk_124 (by decide) (fun _ => ?_) (fun c_13 => absurd c_13 (by decide))
              refine lv_iload hx hb dX10_goWalk_135 (lv_at hl 1 rfl) ?_
              refine lv_if_ge (tgt := 159) hx hb dX10_goWalk_137 (by decide) (fun c_14 => ?_) (fun c_14 => ?_)
              · skip
                obtain ⟨u, hu, eu⟩ := mGo_cm hSV (by omega) (Int32.not_lt.mpr c_14)
                have hl : lv_has ls 6 [(5, .int 0), (4, .int (nI u)), (0, .ref (am 0)), (1, .int (nI j0)), (2, .int (nI a)), (3, .int pa)] := by rw [← eu]; exact hl
                refine lv_aload_n hx hb dX10_goWalk_159 rfl (lv_at hl 2 rfl) ?_
                refine va_get (D := D) (ci := 10) (v := .int (nI i)) (C := RX10) (T := TX10) (N := 41) hx hb hts hin10 hown hK.1 hP 0 rfl rfl 19 (by decide) (hts _ fl_X10_131) (fun _ h9 => h9) rfl dX10_goWalk_160 ?_
                refine lv_bipush (v := 30) hx hb dX10_goWalk_163 (by decide) ?_
                refine lv_icmp_ne (tgt := 176) hx hb dX10_goWalk_165 (by decide) (fun c_15 => ?_) (fun c_15 => ?_)
                · skip
                  have hk30 : i < 30 := by have h9 : i ≠ 30 := fun q9 => c_15 (by rw [q9]; rfl); omega
                  refine lv_aload_n hx hb dX10_goWalk_176 rfl (lv_at hl 2 rfl) ?_
                  refine lv_iload hx hb dX10_goWalk_177 (lv_at hl 1 rfl) ?_
                  refine lv_iload_n hx hb dX10_goWalk_179 rfl (lv_at hl 4 rfl) ?_
                  refine ro_V (As := [.int (nI u), .int (nI a)]) (rest := []) ⟨hx, hb, hml, hown, hts⟩ (c_X10_otherEnd l D cI cZ am N hN16 S hS24 q o ho8 ro hr10 t ht6 fo hf5 k hk8 (en, (nI i), le, wa, (upd cf (16 * a + j) 1), z.2.2.2.2.2.1, z.2.2.2.2.2.2.1, z.2.2.2.2.2.2.2) u (show u < 16 by omega) (nI a)) (cw_X10_143 hts rfl rfl ⟨Nat.le_of_ble_eq_true rfl, Nat.le_of_ble_eq_true rfl⟩) hK hP (ci := 10) rfl rfl rfl hl.1 rfl (Nat.le_of_ble_eq_true rfl) dX10_goWalk_180 ⟨Nat.zero_le _, Nat.zero_le _⟩ ?_
                  refine lv_istore_n (lv' := [(2, .int (mOE N u (nI a))), (5, .int 0), (4, .int (nI u)), (0, .ref (am 0)), (1, .int (nI j0)), (3, .int pa)]) hx hb dX10_goWalk_183 rfl hl (by decide) rfl (fun ls hl => ?_)
                  refine lv_iload hx hb dX10_goWalk_184 (lv_at hl 2 rfl) ?_
                  refine lv_istore_n (lv' := [(3, .int (nI u)), (2, .int (mOE N u (nI a))), (5, .int 0), (4, .int (nI u)), (0, .ref (am 0)), (1, .int (nI j0))]) hx hb dX10_goWalk_186 rfl hl (by decide) rfl (fun ls hl => ?_)
                  refine lv_aload_n hx hb dX10_goWalk_187 rfl (lv_at hl 4 rfl) ?_
                  refine lv_dup hx hb dX10_goWalk_188 rfl ?_
                  refine va_get (D := D) (ci := 10) (v := .int (nI i)) (C := RX10) (T := TX10) (N := 41) hx hb hts hin10 hown hK.1 hP 0 rfl rfl 19 (by decide) (hts _ fl_X10_131) (fun _ h9 => h9) rfl dX10_goWalk_189 ?_
                  refine lv_iconst (v := 1) hx hb dX10_goWalk_192 (by decide) ?_
                  refine lv_iadd hx hb dX10_goWalk_193 ?_
                  rw [nI_1 i]
                  refine va_put (D := D) (ci := 10) (v := .int (nI (i + 1))) (ty := .int) (C := RX10) (T := TX10) (N := 41) hx hb hts hin10 tyX10 tyX10_ok nmX10 hown hK.1 hP hD hS 0 rfl rfl 19 (by decide) (hts _ fl_X10_131) (fun _ h9 => h9) rfl (by decide +kernel) rfl rfl (Nat.le_of_ble_eq_true rfl) dX10_goWalk_194 (fun H locs hP hD hS => ?_)
                  have hP : va_P D vwCl (wM am cI cZ N S q o ro t fo k (en, (nI (i + 1)), le, wa, (upd cf (16 * a + j) 1), z.2.2.2.2.2.1, z.2.2.2.2.2.2.1, z.2.2.2.2.2.2.2)) H := hP
                  have hD : va_D _ (wM am cI cZ N S q o ro t fo k (en, (nI (i + 1)), le, wa, (upd cf (16 * a + j) 1), z.2.2.2.2.2.1, z.2.2.2.2.2.2.1, z.2.2.2.2.2.2.2)) := hD
                  refine lv_aload_n hx hb dX10_goWalk_197 rfl (lv_at hl 4 rfl) ?_
                  refine lv_dup hx hb dX10_goWalk_198 rfl ?_
                  refine va_get (D := D) (ci := 10) (v := .int le) (C := RX10) (T := TX10) (N := 41) hx hb hts hin10 hown hK.1 hP 0 rfl rfl 20 (by decide) (hts _ fl_X10_134) (fun _ h9 => h9) rfl dX10_goWalk_199 ?_
                  refine lv_aload_n hx hb dX10_goWalk_202 rfl (lv_at hl 4 rfl) ?_
                  refine va_get (D := D) (ci := 10) (v := .ref (am 3)) (C := RX10) (T := TX10) (N := 41) hx hb hts hin10 hown hK.1 hP 0 rfl rfl 3 (by decide) (hts _ fl_X10_16) (fun _ h9 => h9) rfl dX10_goWalk_203 ?_
                  refine lv_iload_n hx hb dX10_goWalk_206 rfl (lv_at hl 0 rfl) ?_
                  refine z_iald hx hb hK.1 hP 3 0 rfl rfl u rfl (show u < 16 by omega) (by decide) dX10_goWalk_207 ?_
                  refine lv_iadd hx hb dX10_goWalk_208 ?_
                  refine va_put (D := D) (ci := 10) (v := .int (le + ((N_l N) u))) (ty := .int) (C := RX10) (T := TX10) (N := 41) hx hb hts hin10 tyX10 tyX10_ok nmX10 hown hK.1 hP hD hS 0 rfl rfl 20 (by decide) (hts _ fl_X10_134) (fun _ h9 => h9) rfl (by decide +kernel) rfl rfl (Nat.le_of_ble_eq_true rfl) dX10_goWalk_209 (fun H locs hP hD hS => ?_)
                  have hP : va_P D vwCl (wM am cI cZ N S q o ro t fo k (en, (nI (i + 1)), (le + ((N_l N) u)), wa, (upd cf (16 * a + j) 1), z.2.2.2.2.2.1, z.2.2.2.2.2.2.1, z.2.2.2.2.2.2.2)) H := hP
                  have hD : va_D _ (wM am cI cZ N S q o ro t fo k (en, (nI (i + 1)), (le + ((N_l N) u)), wa, (upd cf (16 * a + j) 1), z.2.2.2.2.2.1, z.2.2.2.2.2.2.1, z.2.2.2.2.2.2.2)) := hD
                  obtain ⟨a2, ha2, ea2⟩ := mOE_ne hNE hu (nI a)
                  have hl : lv_has ls 6 [(3, .int (nI u)), (2, .int (nI a2)), (5, .int 0), (4, .int (nI u)), (0, .ref (am 0)), (1, .int (nI j0))] := by rw [← ea2]; exact hl
                  refine lv_aload_n hx hb dX10_goWalk_212 rfl (lv_at hl 4 rfl) ?_
                  refine va_get (D := D) (ci := 10) (v := .ref (am 12)) (C := RX10) (T := TX10) (N := 41) hx hb hts hin10 hown hK.1 hP 0 rfl rfl 21 (by decide) (hts _ fl_X10_48) (fun _ h9 => h9) rfl dX10_goWalk_213 ?_
                  refine lv_aload_n hx hb dX10_goWalk_216 rfl (lv_at hl 4 rfl) ?_
                  refine va_get (D := D) (ci := 10) (v := .int (nI (i + 1))) (C := RX10) (T := TX10) (N := 41) hx hb hts hin10 hown hK.1 hP 0 rfl rfl 19 (by decide) (hts _ fl_X10_131) (fun _ h9 => h9) rfl dX10_goWalk_217 ?_
                  refine lv_iload_n hx hb dX10_goWalk_220 rfl (lv_at hl 1 rfl) ?_
                  refine z_iast hx hb hK.1 hP hD hS 12 0 rfl rfl (i + 1) rfl (show i + 1 < 32 by omega) (by decide)  dX10_goWalk_221 (fun H locs hP hD hS => ?_)
                  have hP : va_P D vwCl (wM am cI cZ N S q o ro t fo k (en, (nI (i + 1)), (le + ((N_l N) u)), (upd wa (i + 1) (nI a2)), (upd cf (16 * a + j) 1), z.2.2.2.2.2.1, z.2.2.2.2.2.2.1, z.2.2.2.2.2.2.2)) H := hP
                  have hD : va_D _ (wM am cI cZ N S q o ro t fo k (en, (nI (i + 1)), (le + ((N_l N) u)), (upd wa (i + 1) (nI a2)), (upd cf (16 * a + j) 1), z.2.2.2.2.2.1, z.2.2.2.2.2.2.1, z.2.2.2.2.2.2.2)) := hD
                  refine lv_goto (tgt := 48) hx hb dX10_goWalk_222 (by decide) ?_
                  exact ih_48 ((i + 1), a2, (nI u), (upd cf (16 * a + j) 1), (upd wa (i + 1) (nI a2)), (le + ((N_l N) u)), en) ls H locs (show (i + 1) ≤ 30 ∧ a2 < 10 ∧ mCm N (nI u) ∧ (en = -1 → mWk S q N (30 - (i + 1)) (i + 1) (nI a2, (nI u), (upd cf (16 * a + j) 1), (upd wa (i + 1) (nI a2)), (le + ((N_l N) u))) = (mWalk S q N z (nI j0))) ∧ (¬ en = -1 → (en, (i + 1), (le + ((N_l N) u)), (upd wa (i + 1) (nI a2)), (upd cf (16 * a + j) 1)) = (mWalk S q N z (nI j0))) from (⟨by omega, ha2, Or.inr ⟨u, hu, rfl⟩, fun _ => (by
                            obtain ⟨n9, hn9⟩ : ∃ n9, 30 - i = n9 + 1 := ⟨29 - i, by omega⟩
                            rw [← hrun c_2, hn9, show 30 - (i + 1) = n9 by omega, mWk_s (by unfold mEn; dsimp only; rw [if_neg c_12, if_neg hag, if_neg (Int32.not_lt.mpr c_14)]; rfl)]
                            unfold mStp mOe9; dsimp only; rw [eu, nI_cl (by omega), hcs, ea2]), fun h9 => absurd c_2 h9⟩)) (show 31 - (i + 1) + (if en = -1 then 1 else 0) < 31 - i + (if en = -1 then 1 else 0) from by rw [if_pos c_2]; omega) (show lv_has ls 6 [(0, .ref (am 0)), (1, .int (nI j0)), (2, .int (nI a2)), (3, .int (nI u))] from lv_sub hl [4, 5, 1, 0] rfl) hP hD hS
                · skip
                  have hk30 : i = 30 := by have h9 : nI i = nI 30 := c_15; rw [nI_eq (by omega) (by omega)] at h9; exact h9
                  refine lv_aload_n hx hb dX10_goWalk_168 rfl (lv_at hl 2 rfl) ?_
                  refine lv_iconst (v := 4) hx hb dX10_goWalk_169 (by decide) ?_
                  refine va_put (D := D) (ci := 10) (v := .int 4) (ty := .int) (C := RX10) (T := TX10) (N := 41) hx hb hts hin10 tyX10 tyX10_ok nmX10 hown hK.1 hP hD hS 0 rfl rfl 18 (by decide) (hts _ fl_X10_137) (fun _ h9 => h9) rfl (by decide +kernel) rfl rfl (Nat.le_of_ble_eq_true rfl) dX10_goWalk_170 (fun H locs hP hD hS => ?_)
                  have hP : va_P D vwCl (wM am cI cZ N S q o ro t fo k (4, (nI i), le, wa, (upd cf (16 * a + j) 1), z.2.2.2.2.2.1, z.2.2.2.2.2.2.1, z.2.2.2.2.2.2.2)) H := hP
                  have hD : va_D _ (wM am cI cZ N S q o ro t fo k (4, (nI i), le, wa, (upd cf (16 * a + j) 1), z.2.2.2.2.2.1, z.2.2.2.2.2.2.1, z.2.2.2.2.2.2.2)) := hD
                  refine lv_goto (tgt := 222) hx hb dX10_goWalk_173 (by decide) ?_
                  refine lv_goto (tgt := 48) hx hb dX10_goWalk_222 (by decide) ?_
                  exact ih_48 (i, a, pa, (upd cf (16 * a + j) 1), wa, le, 4) ls H locs (show i ≤ 30 ∧ a < 10 ∧ mCm N pa ∧ (4 = -1 → mWk S q N (30 - i) i (nI a, pa, (upd cf (16 * a + j) 1), wa, le) = (mWalk S q N z (nI j0))) ∧ (¬ 4 = -1 → (4, i, le, wa, (upd cf (16 * a + j) 1)) = (mWalk S q N z (nI j0))) from ⟨by omega, ha, hpa, fun h9 => absurd h9 (by decide), fun _ => by rw [← hrun c_2, mWk_e (e := 4) (by unfold mEn; dsimp only; rw [if_neg c_12, if_neg hag, if_neg (Int32.not_lt.mpr c_14), if_pos (decide_eq_true (show 30 - i = 0 by omega))]) (by decide)]; dsimp only; rw [hcs]⟩) (show 31 - i + (if 4 = -1 then 1 else 0) < 31 - i + (if en = -1 then 1 else 0) from by rw [if_pos c_2, if_neg (by decide)]; omega) (show lv_has ls 6 [(0, .ref (am 0)), (1, .int (nI j0)), (2, .int (nI a)), (3, .int pa)] from lv_sub hl [2, 3, 4, 5] rfl) hP hD hS
              · skip
                refine lv_aload_n hx hb dX10_goWalk_140 rfl (lv_at hl 2 rfl) ?_
                refine lv_iload hx hb dX10_goWalk_141 (lv_at hl 1 rfl) ?_
                refine lv_bipush (v := (-3)) hx hb dX10_goWalk_143 (by decide) ?_
                refine lv_icmp_ne (tgt := 152) hx hb dX10_goWalk_145 (by decide) (fun c_16 => ?_) (fun c_16 => ?_)
                · skip
                  refine lv_iconst (v := 0) hx hb dX10_goWalk_152 (by decide) ?_
                  refine va_put (D := D) (ci := 10) (v := .int 0) (ty := .int) (C := RX10) (T := TX10) (N := 41) hx hb hts hin10 tyX10 tyX10_ok nmX10 hown hK.1 hP hD hS 0 rfl rfl 18 (by decide) (hts _ fl_X10_137) (fun _ h9 => h9) rfl (by decide +kernel) rfl rfl (Nat.le_of_ble_eq_true rfl) dX10_goWalk_153 (fun H locs hP hD hS => ?_)
                  have hP : va_P D vwCl (wM am cI cZ N S q o ro t fo k (0, (nI i), le, wa, (upd cf (16 * a + j) 1), z.2.2.2.2.2.1, z.2.2.2.2.2.2.1, z.2.2.2.2.2.2.2)) H := hP
                  have hD : va_D _ (wM am cI cZ N S q o ro t fo k (0, (nI i), le, wa, (upd cf (16 * a + j) 1), z.2.2.2.2.2.1, z.2.2.2.2.2.2.1, z.2.2.2.2.2.2.2)) := hD
                  refine lv_goto (tgt := 222) hx hb dX10_goWalk_156 (by decide) ?_
                  refine lv_goto (tgt := 48) hx hb dX10_goWalk_222 (by decide) ?_
                  exact ih_48 (i, a, pa, (upd cf (16 * a + j) 1), wa, le, 0) ls H locs (show i ≤ 30 ∧ a < 10 ∧ mCm N pa ∧ (0 = -1 → mWk S q N (30 - i) i (nI a, pa, (upd cf (16 * a + j) 1), wa, le) = (mWalk S q N z (nI j0))) ∧ (¬ 0 = -1 → (0, i, le, wa, (upd cf (16 * a + j) 1)) = (mWalk S q N z (nI j0))) from ⟨by omega, ha, hpa, fun h9 => absurd h9 (by decide), fun _ => by rw [← hrun c_2, mWk_e (e := 0) (by unfold mEn; dsimp only; rw [if_neg c_12, if_neg hag, if_pos (Int32.not_le.mp c_14), if_neg c_16]) (by decide)]; dsimp only; rw [hcs]⟩) (show 31 - i + (if 0 = -1 then 1 else 0) < 31 - i + (if en = -1 then 1 else 0) from by rw [if_pos c_2, if_neg (by decide)]; omega) (show lv_has ls 6 [(0, .ref (am 0)), (1, .int (nI j0)), (2, .int (nI a)), (3, .int pa)] from lv_sub hl [2, 3, 4, 5] rfl) hP hD hS
                · skip
                  refine lv_iconst (v := 1) hx hb dX10_goWalk_148 (by decide) ?_
                  refine lv_goto (tgt := 153) hx hb dX10_goWalk_149 (by decide) ?_
                  refine va_put (D := D) (ci := 10) (v := .int 1) (ty := .int) (C := RX10) (T := TX10) (N := 41) hx hb hts hin10 tyX10 tyX10_ok nmX10 hown hK.1 hP hD hS 0 rfl rfl 18 (by decide) (hts _ fl_X10_137) (fun _ h9 => h9) rfl (by decide +kernel) rfl rfl (Nat.le_of_ble_eq_true rfl) dX10_goWalk_153 (fun H locs hP hD hS => ?_)
                  have hP : va_P D vwCl (wM am cI cZ N S q o ro t fo k (1, (nI i), le, wa, (upd cf (16 * a + j) 1), z.2.2.2.2.2.1, z.2.2.2.2.2.2.1, z.2.2.2.2.2.2.2)) H := hP
                  have hD : va_D _ (wM am cI cZ N S q o ro t fo k (1, (nI i), le, wa, (upd cf (16 * a + j) 1), z.2.2.2.2.2.1, z.2.2.2.2.2.2.1, z.2.2.2.2.2.2.2)) := hD
                  refine lv_goto (tgt := 222) hx hb dX10_goWalk_156 (by decide) ?_
                  refine lv_goto (tgt := 48) hx hb dX10_goWalk_222 (by decide) ?_
                  exact ih_48 (i, a, pa, (upd cf (16 * a + j) 1), wa, le, 1) ls H locs (show i ≤ 30 ∧ a < 10 ∧ mCm N pa ∧ (1 = -1 → mWk S q N (30 - i) i (nI a, pa, (upd cf (16 * a + j) 1), wa, le) = (mWalk S q N z (nI j0))) ∧ (¬ 1 = -1 → (1, i, le, wa, (upd cf (16 * a + j) 1)) = (mWalk S q N z (nI j0))) from ⟨by omega, ha, hpa, fun h9 => absurd h9 (by decide), fun _ => by rw [← hrun c_2, mWk_e (e := 1) (by unfold mEn; dsimp only; rw [if_neg c_12, if_neg hag, if_pos (Int32.not_le.mp c_14), if_pos c_16]) (by decide)]; dsimp only; rw [hcs]⟩) (show 31 - i + (if 1 = -1 then 1 else 0) < 31 - i + (if en = -1 then 1 else 0) from by rw [if_pos c_2, if_neg (by decide)]; omega) (show lv_has ls 6 [(0, .ref (am 0)), (1, .int (nI j0)), (2, .int (nI a)), (3, .int pa)] from lv_sub hl [2, 3, 4, 5] rfl) hP hD hS
            · skip
              refine lv_aload_n hx hb dX10_goWalk_114 rfl (lv_at hl 2 rfl) ?_
              refine lv_iconst (v := 2) hx hb dX10_goWalk_115 (by decide) ?_
              refine va_put (D := D) (ci := 10) (v := .int 2) (ty := .int) (C := RX10) (T := TX10) (N := 41) hx hb hts hin10 tyX10 tyX10_ok nmX10 hown hK.1 hP hD hS 0 rfl rfl 18 (by decide) (hts _ fl_X10_137) (fun _ h9 => h9) rfl (by decide +kernel) rfl rfl (Nat.le_of_ble_eq_true rfl) dX10_goWalk_116 (fun H locs hP hD hS => ?_)
              have hP : va_P D vwCl (wM am cI cZ N S q o ro t fo k (2, (nI i), le, wa, (upd cf (16 * a + j) 1), z.2.2.2.2.2.1, z.2.2.2.2.2.2.1, z.2.2.2.2.2.2.2)) H := hP
              have hD : va_D _ (wM am cI cZ N S q o ro t fo k (2, (nI i), le, wa, (upd cf (16 * a + j) 1), z.2.2.2.2.2.1, z.2.2.2.2.2.2.1, z.2.2.2.2.2.2.2)) := hD
              refine lv_goto (tgt := 222) hx hb dX10_goWalk_119 (by decide) ?_
              refine lv_goto (tgt := 48) hx hb dX10_goWalk_222 (by decide) ?_
              exact ih_48 (i, a, pa, (upd cf (16 * a + j) 1), wa, le, 2) ls H locs (show i ≤ 30 ∧ a < 10 ∧ mCm N pa ∧ (2 = -1 → mWk S q N (30 - i) i (nI a, pa, (upd cf (16 * a + j) 1), wa, le) = (mWalk S q N z (nI j0))) ∧ (¬ 2 = -1 → (2, i, le, wa, (upd cf (16 * a + j) 1)) = (mWalk S q N z (nI j0))) from ⟨by omega, ha, hpa, fun h9 => absurd h9 (by decide), fun _ => by rw [← hrun c_2, mWk_e (e := 2) (by unfold mEn; dsimp only; rw [if_pos c_12]) (by decide)]; dsimp only; rw [hcs]⟩) (show 31 - i + (if 2 = -1 then 1 else 0) < 31 - i + (if en = -1 then 1 else 0) from by rw [if_pos c_2, if_neg (by decide)]; omega) (show lv_has ls 6 [(0, .ref (am 0)), (1, .int (nI j0)), (2, .int (nI a)), (3, .int pa)] from lv_sub hl [2, 3, 4, 5] rfl) hP hD hS
        · skip
          refine lv_iconst (v := 1) hx hb dX10_goWalk_83 (by decide) ?_
          refine lv_goto (tgt := 88) hx hb dX10_goWalk_84 (by decide) ?_
          refine lv_istore (lv' := [(5, .int 1), (4, .int (mGo S q N (nI a) pa)), (0, .ref (am 0)), (1, .int (nI j0)), (2, .int (nI a)), (3, .int pa)]) hx hb dX10_goWalk_88 hl (by decide) rfl (fun ls hl => ?_)
          refine lv_iload_n hx hb dX10_goWalk_90 rfl (lv_at hl 5 rfl) ?_
          refine lv_iconst (v := (-1)) hx hb dX10_goWalk_91 (by decide) ?_
          refine lv_icmp_eq (tgt := 107) hx hb dX10_goWalk_92 (by decide) (fun c_17 => ?_) (fun c_17 => ?_)
          · skip
            exact absurd c_17 c_3
          · skip
            refine lv_aload_n hx hb dX10_goWalk_95 rfl (lv_at hl 2 rfl) ?_
            refine va_get (D := D) (ci := 10) (v := .ref (am 13)) (C := RX10) (T := TX10) (N := 41) hx hb hts hin10 hown hK.1 hP 0 rfl rfl 22 (by decide) (hts _ fl_X10_51) (fun _ h9 => h9) rfl dX10_goWalk_96 ?_
            refine lv_bipush (v := 16) hx hb dX10_goWalk_99 (by decide) ?_
            refine lv_iload_n hx hb dX10_goWalk_101 rfl (lv_at hl 4 rfl) ?_
            refine lv_imul hx hb dX10_goWalk_102 ?_
            refine lv_iload_n hx hb dX10_goWalk_103 rfl (lv_at hl 5 rfl) ?_
            refine lv_iadd hx hb dX10_goWalk_104 ?_
            refine lv_iconst (v := 1) hx hb dX10_goWalk_105 (by decide) ?_
            refine z_zast hx hb hK.1 hP hD hS 13 1 rfl rfl (16 * a + j) hix hj160 (by decide) rfl dX10_goWalk_106 (fun H locs hP hD hS => ?_)
            have hP : va_P D vwCl (wM am cI cZ N S q o ro t fo k (en, (nI i), le, wa, (upd cf (16 * a + j) 1), z.2.2.2.2.2.1, z.2.2.2.2.2.2.1, z.2.2.2.2.2.2.2)) H := hP
            have hD : va_D _ (wM am cI cZ N S q o ro t fo k (en, (nI i), le, wa, (upd cf (16 * a + j) 1), z.2.2.2.2.2.1, z.2.2.2.2.2.2.1, z.2.2.2.2.2.2.2)) := hD
            have hcs : mCs (nI a) pa cf = (upd cf (16 * a + j) 1) := by unfold mCs; rw [if_neg c_3, hci]
            have hag : ¬ pa = -1 ∧ ¬ cf (mCi (nI a) pa) = 0 := ⟨c_3, by rw [hci]; exact c_10⟩
            refine lv_iload hx hb dX10_goWalk_107 (lv_at hl 1 rfl) ?_
            refine lv_bipush (v := (-2)) hx hb dX10_goWalk_109 (by decide) ?_
            refine lv_icmp_ne (tgt := 122) hx hb dX10_goWalk_111 (by decide) (fun c_18 => ?_) (fun c_18 => ?_)
            · skip
              refine lv_iload hx hb dX10_goWalk_122 (lv_at hl 0 rfl) ?_
              refine lv_if_eq (tgt := 135) hx hb dX10_goWalk_124 (by decide) (fun c_19 => absurd c_19 (by decide)) (fun _ => ?_)
              refine lv_aload_n hx hb dX10_goWalk_127 rfl (lv_at hl 2 rfl) ?_
              refine lv_iconst (v := 3) hx hb dX10_goWalk_128 (by decide) ?_
              refine va_put (D := D) (ci := 10) (v := .int 3) (ty := .int) (C := RX10) (T := TX10) (N := 41) hx hb hts hin10 tyX10 tyX10_ok nmX10 hown hK.1 hP hD hS 0 rfl rfl 18 (by decide) (hts _ fl_X10_137) (fun _ h9 => h9) rfl (by decide +kernel) rfl rfl (Nat.le_of_ble_eq_true rfl) dX10_goWalk_129 (fun H locs hP hD hS => ?_)
              have hP : va_P D vwCl (wM am cI cZ N S q o ro t fo k (3, (nI i), le, wa, (upd cf (16 * a + j) 1), z.2.2.2.2.2.1, z.2.2.2.2.2.2.1, z.2.2.2.2.2.2.2)) H := hP
              have hD : va_D _ (wM am cI cZ N S q o ro t fo k (3, (nI i), le, wa, (upd cf (16 * a + j) 1), z.2.2.2.2.2.1, z.2.2.2.2.2.2.1, z.2.2.2.2.2.2.2)) := hD
              refine lv_goto (tgt := 222) hx hb dX10_goWalk_132 (by decide) ?_
              refine lv_goto (tgt := 48) hx hb dX10_goWalk_222 (by decide) ?_
              exact ih_48 (i, a, pa, (upd cf (16 * a + j) 1), wa, le, 3) ls H locs (show i ≤ 30 ∧ a < 10 ∧ mCm N pa ∧ (3 = -1 → mWk S q N (30 - i) i (nI a, pa, (upd cf (16 * a + j) 1), wa, le) = (mWalk S q N z (nI j0))) ∧ (¬ 3 = -1 → (3, i, le, wa, (upd cf (16 * a + j) 1)) = (mWalk S q N z (nI j0))) from ⟨by omega, ha, hpa, fun h9 => absurd h9 (by decide), fun _ => by rw [← hrun c_2, mWk_e (e := 3) (by unfold mEn; dsimp only; rw [if_neg c_18, if_pos hag]) (by decide)]; dsimp only; rw [hcs]⟩) (show 31 - i + (if 3 = -1 then 1 else 0) < 31 - i + (if en = -1 then 1 else 0) from by rw [if_pos c_2, if_neg (by decide)]; omega) (show lv_has ls 6 [(0, .ref (am 0)), (1, .int (nI j0)), (2, .int (nI a)), (3, .int pa)] from lv_sub hl [2, 3, 4, 5] rfl) hP hD hS
            · skip
              refine lv_aload_n hx hb dX10_goWalk_114 rfl (lv_at hl 2 rfl) ?_
              refine lv_iconst (v := 2) hx hb dX10_goWalk_115 (by decide) ?_
              refine va_put (D := D) (ci := 10) (v := .int 2) (ty := .int) (C := RX10) (T := TX10) (N := 41) hx hb hts hin10 tyX10 tyX10_ok nmX10 hown hK.1 hP hD hS 0 rfl rfl 18 (by decide) (hts _ fl_X10_137) (fun _ h9 => h9) rfl (by decide +kernel) rfl rfl (Nat.le_of_ble_eq_true rfl) dX10_goWalk_116 (fun H locs hP hD hS => ?_)
              have hP : va_P D vwCl (wM am cI cZ N S q o ro t fo k (2, (nI i), le, wa, (upd cf (16 * a + j) 1), z.2.2.2.2.2.1, z.2.2.2.2.2.2.1, z.2.2.2.2.2.2.2)) H := hP
              have hD : va_D _ (wM am cI cZ N S q o ro t fo k (2, (nI i), le, wa, (upd cf (16 * a + j) 1), z.2.2.2.2.2.1, z.2.2.2.2.2.2.1, z.2.2.2.2.2.2.2)) := hD
              refine lv_goto (tgt := 222) hx hb dX10_goWalk_119 (by decide) ?_
              refine lv_goto (tgt := 48) hx hb dX10_goWalk_222 (by decide) ?_
              exact ih_48 (i, a, pa, (upd cf (16 * a + j) 1), wa, le, 2) ls H locs (show i ≤ 30 ∧ a < 10 ∧ mCm N pa ∧ (2 = -1 → mWk S q N (30 - i) i (nI a, pa, (upd cf (16 * a + j) 1), wa, le) = (mWalk S q N z (nI j0))) ∧ (¬ 2 = -1 → (2, i, le, wa, (upd cf (16 * a + j) 1)) = (mWalk S q N z (nI j0))) from ⟨by omega, ha, hpa, fun h9 => absurd h9 (by decide), fun _ => by rw [← hrun c_2, mWk_e (e := 2) (by unfold mEn; dsimp only; rw [if_pos c_18]) (by decide)]; dsimp only; rw [hcs]⟩) (show 31 - i + (if 2 = -1 then 1 else 0) < 31 - i + (if en = -1 then 1 else 0) from by rw [if_pos c_2, if_neg (by decide)]; omega) (show lv_has ls 6 [(0, .ref (am 0)), (1, .int (nI j0)), (2, .int (nI a)), (3, .int pa)] from lv_sub hl [2, 3, 4, 5] rfl) hP hD hS
  · skip
    have hlt : i < 160 := zlt (by have := hI; omega) (by decide) c_1
    refine lv_aload_n hx hb dX10_goWalk_9 rfl (lv_at hl 0 rfl) ?_
    refine va_get (D := D) (ci := 10) (v := .ref (am 13)) (C := RX10) (T := TX10) (N := 41) hx hb hts hin10 hown hK.1 hP 0 rfl rfl 22 (by decide) (hts _ fl_X10_51) (fun _ h9 => h9) rfl dX10_goWalk_10 ?_
    refine lv_iload_n hx hb dX10_goWalk_13 rfl (lv_at hl 2 rfl) ?_
    refine lv_iconst (v := 0) hx hb dX10_goWalk_14 (by decide) ?_
    refine z_zast hx hb hK.1 hP hD hS 13 1 rfl rfl i rfl hlt (by decide) rfl dX10_goWalk_15 (fun H locs hP hD hS => ?_)
    have hP : va_P D vwCl (wM am cI cZ N S q o ro t fo k (z.1, z.2.1, z.2.2.1, z.2.2.2.1, (upd (mCf z.2.2.2.2.1 i) i 0), z.2.2.2.2.2.1, z.2.2.2.2.2.2.1, z.2.2.2.2.2.2.2)) H := hP
    have hD : va_D _ (wM am cI cZ N S q o ro t fo k (z.1, z.2.1, z.2.2.1, z.2.2.2.1, (upd (mCf z.2.2.2.2.1 i) i 0), z.2.2.2.2.2.1, z.2.2.2.2.2.2.1, z.2.2.2.2.2.2.2)) := hD
    refine lv_iinc (v := (nI (i + 1))) (lv' := [(2, .int (nI (i + 1))), (0, .ref (am 0)), (1, .int (nI j0))]) hx hb dX10_goWalk_16 hl (k := 2) rfl (nI_add i 1) (by decide) rfl (fun ls hl => ?_)
    refine lv_goto (tgt := 2) hx hb dX10_goWalk_19 (by decide) ?_
    exact ih_2 (i + 1) ls H locs (show (i + 1) ≤ 160 from hlt) (show 160 - (i + 1) < 160 - i from by omega) (show lv_has ls 6 [(0, .ref (am 0)), (1, .int (nI j0)), (2, .int (nI (i + 1)))] from lv_sub hl [1, 2, 0] rfl) hP hD hS
