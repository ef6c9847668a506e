def mAh (fo : TF) (i b : Nat) : Bool := decide (fo.2 i < fo.2 b ∨ (fo.2 i = fo.2 b ∧ nI i < nI b))
def mFa (fo : TF) (hh sp b : Nat) : Nat → Int32
  | 0 => fo.2 b
  | i + 1 => mFa fo hh sp b i + (if mAh fo i b = true ∧ nI (mHo fo.1 hh sp i) = nI (mHo fo.1 hh sp b) then 2 * fo.2 i else 0)
def mWs (fo : TF) (hh sp : Nat) : Nat → Int32
  | 0 => 0
  | b + 1 => if mWs fo hh sp b < mFa fo hh sp b fo.1 then mFa fo hh sp b fo.1 else mWs fo hh sp b
def mBf (fo : TF) (hh : Nat) : Nat → Int32 × Int32
  | 0 => (0, -1)
  | s9 + 1 => if (mBf fo hh s9).2 = -1 ∨ mWs fo hh s9 fo.1 < (mBf fo hh s9).2 then (nI s9, mWs fo hh s9 fo.1) else mBf fo hh s9
theorem mBf_lt {fo : TF} {hh : Nat} : ∀ s9, ∃ j : Nat, (j < s9 ∨ j = 0) ∧ (mBf fo hh s9).1 = nI j
  | 0 => ⟨0, Or.inr rfl, rfl⟩
  | s9 + 1 => by
    rw [mBf]
    split
    · exact ⟨s9, Or.inl (by omega), rfl⟩
    · obtain ⟨j, h1, h2⟩ := mBf_lt (fo := fo) (hh := hh) s9
      exact ⟨j, by omega, h2⟩
set_option maxHeartbeats 4000000 in
set_option maxRecDepth 100000 in
theorem c_X10_foundAt (l : Launch) (D : va_G) (cI cZ : ClassId) (am : Nat → Nat) (N : TN) (hN16 : N_n N ≤ 16) (S : TS) (hS24 : S_n S ≤ 24) (q : TQ) (o : TO) (ho8 : o.1 ≤ 8) (ro : TR) (hr10 : ro.1 ≤ 10) (t : TT) (ht6 : t.1 ≤ 6) (fo : TF) (hf5 : fo.1 ≤ 5) (k : TC) (hk8 : k.2.1 ≤ 8) (z : TZ) (sp hh b : Nat) (hsp : sp < 2 ^ 31) (hh0 : 0 < hh) (hh3 : hh ≤ 3) (hbf : b < fo.1) : RO l D cI cZ yX10_foundAt wyX10_foundAt ({ frames := 1, cells := 0, slots := 0, locals := 25 } : Room) [.ref (am 0), .int (nI sp), .int (nI hh), .int (nI b)] (wM am cI cZ N S q o ro t fo k z) (mFa fo hh sp b fo.1) := by
  refine Met.ofW (cc := cX10_foundAt) (maxL := 7) (ret := (some .int)) (by decide) rfl ?_
  intro p e s m args below meth c s₁ B hml hv
  obtain ⟨rfl, hK, hP⟩ := hv
  have hx := B.exec
  have hb := B.bytes
  have hr := B.returns
  have hts0 := atoms_spec (ws := wyX10_foundAt) B.pre
  have hts : ∀ w ∈ big, w.before _ s = true := fun w h => hts0 w (List.mem_cons_of_mem _ h)
  have hown : s.vm.findClass RX10 = some m.cls := findClass_of_methodNamed B.named
  have hlocks := B.notSynchronized
  have hl := lv_entry ([.ref (am 0), .int (nI sp), .int (nI hh), .int (nI b)]) (n := 7) (Nat.le_of_ble_eq_true rfl)
  rw [lg_entry_eq]
  generalize (lg_sl ([.ref (am 0), .int (nI sp), .int (nI hh), .int (nI b)]) ++ List.replicate (7 - (lg_sl ([.ref (am 0), .int (nI sp), .int (nI hh), .int (nI b)])).length) Slot.unset).toArray = ls at hl ⊢
  have hl : lv_has ls 7 [(0, .ref (am 0)), (1, .int (nI sp)), (2, .int (nI hh)), (3, .int (nI b))] := hl
  refine lv_aload_n hx hb dX10_foundAt_0 rfl (lv_at hl 0 rfl) ?_
  refine va_get (D := D) (ci := 10) (v := .ref (am 20)) (C := RX10) (T := TX10) (N := 41) hx hb hts hin10 hown hK.1 hP 0 rfl rfl 33 (by decide) (hts _ fl_X10_72) (fun _ h9 => h9) rfl dX10_foundAt_1 ?_
  refine lv_iload_n hx hb dX10_foundAt_4 rfl (lv_at hl 3 rfl) ?_
  refine z_iald hx hb hK.1 hP 20 0 rfl rfl b rfl (show b < 5 by omega) (by decide) dX10_foundAt_5 ?_
  refine lv_istore (lv' := [(4, .int (fo.2 b)), (0, .ref (am 0)), (1, .int (nI sp)), (2, .int (nI hh)), (3, .int (nI b))]) hx hb dX10_foundAt_6 hl (by decide) rfl (fun ls hl => ?_)
  refine lv_iconst (v := 0) hx hb dX10_foundAt_8 (by decide) ?_
  refine lv_istore (lv' := [(5, .int 0), (4, .int (fo.2 b)), (0, .ref (am 0)), (1, .int (nI sp)), (2, .int (nI hh)), (3, .int (nI b))]) hx hb dX10_foundAt_9 hl (by decide) rfl (fun ls hl => ?_)
  refine w_loop (α := Nat) (fun a9 => a9 ≤ fo.1) (fun a9 => fo.1 - a9) (fun a9 => [(0, .ref (am 0)), (1, .int (nI sp)), (2, .int (nI hh)), (3, .int (nI b)), (4, .int (mFa fo hh sp b a9)), (5, .int (nI a9))]) 11 7 ?_ 0 (Nat.zero_le _) (show lv_has ls 7 [(0, .ref (am 0)), (1, .int (nI sp)), (2, .int (nI hh)), (3, .int (nI b)), (4, .int (mFa fo hh sp b 0)), (5, .int (nI 0))] from lv_sub hl [2, 3, 4, 5, 1, 0] rfl)
  intro a9 ls hI hl ih_11
  obtain ⟨i, rfl⟩ : ∃ z, z = a9 := ⟨a9, rfl⟩
  have hI : i ≤ fo.1 := hI
  have hl : lv_has ls 7 [(0, .ref (am 0)), (1, .int (nI sp)), (2, .int (nI hh)), (3, .int (nI b)), (4, .int (mFa fo hh sp b i)), (5, .int (nI i))] := hl
  refine lv_iload hx hb dX10_foundAt_11 (lv_at hl 5 rfl) ?_
  refine lv_aload_n hx hb dX10_foundAt_13 rfl (lv_at hl 0 rfl) ?_
  refine va_get (D := D) (ci := 10) (v := .int (nI fo.1)) (C := RX10) (T := TX10) (N := 41) hx hb hts hin10 hown hK.1 hP 0 rfl rfl 32 (by decide) (hts _ fl_X10_180) (fun _ h9 => h9) rfl dX10_foundAt_14 ?_
  refine lv_icmp_ge (tgt := 112) hx hb dX10_foundAt_17 (by decide) (fun c_1 => ?_) (fun c_1 => ?_)
  · skip
    have hge : fo.1 ≤ i := zge (by have := hI; omega) (by omega) c_1
    refine lv_iload hx hb dX10_foundAt_112 (lv_at hl 4 rfl) ?_
    exact ro_iret hx hb hr hlocks (by rw [show fo.1 = i by omega]) dX10_foundAt_114
  · skip
    have hlt : i < fo.1 := zlt (by have := hI; omega) (by omega) c_1
    refine w_join (α := Int32) (fun a9 => a9 = (zb (mAh fo i b = true))) (fun a9 => [(0, .ref (am 0)), (1, .int (nI sp)), (2, .int (nI hh)), (3, .int (nI b)), (4, .int (mFa fo hh sp b i)), (5, .int (nI i))]) (fun a9 => [.int a9]) 63 7 (fun hJ_63 => ?_) ?_
    · skip
      refine lv_aload_n hx hb dX10_foundAt_20 rfl (lv_at hl 0 rfl) ?_
      refine va_get (D := D) (ci := 10) (v := .ref (am 20)) (C := RX10) (T := TX10) (N := 41) hx hb hts hin10 hown hK.1 hP 0 rfl rfl 33 (by decide) (hts _ fl_X10_72) (fun _ h9 => h9) rfl dX10_foundAt_21 ?_
      refine lv_iload hx hb dX10_foundAt_24 (lv_at hl 5 rfl) ?_
      refine z_iald hx hb hK.1 hP 20 0 rfl rfl i rfl (show i < 5 by omega) (by decide) dX10_foundAt_26 ?_
      refine lv_aload_n hx hb dX10_foundAt_27 rfl (lv_at hl 0 rfl) ?_
      refine va_get (D := D) (ci := 10) (v := .ref (am 20)) (C := RX10) (T := TX10) (N := 41) hx hb hts hin10 hown hK.1 hP 0 rfl rfl 33 (by decide) (hts _ fl_X10_72) (fun _ h9 => h9) rfl dX10_foundAt_28 ?_
      refine lv_iload_n hx hb dX10_foundAt_31 rfl (lv_at hl 3 rfl) ?_
      refine z_iald hx hb hK.1 hP 20 0 rfl rfl b rfl (show b < 5 by omega) (by decide) dX10_foundAt_32 ?_
      refine lv_icmp_lt (tgt := 58) hx hb dX10_foundAt_33 (by decide) (fun c_2 => ?_) (fun c_2 => ?_)
      · skip
        refine lv_iconst (v := 1) hx hb dX10_foundAt_58 (by decide) ?_
        refine lv_goto (tgt := 63) hx hb dX10_foundAt_59 (by decide) ?_
        exact hJ_63 1 ls (show 1 = (zb (mAh fo i b = true)) from (zb_t (by unfold mAh; rw [decide_eq_true_eq]; exact Or.inl c_2)).symm) (show lv_has ls 7 [(0, .ref (am 0)), (1, .int (nI sp)), (2, .int (nI hh)), (3, .int (nI b)), (4, .int (mFa fo hh sp b i)), (5, .int (nI i))] from lv_sub hl [0, 1, 2, 3, 4, 5] rfl)
      · skip
        refine lv_aload_n hx hb dX10_foundAt_36 rfl (lv_at hl 0 rfl) ?_
        refine va_get (D := D) (ci := 10) (v := .ref (am 20)) (C := RX10) (T := TX10) (N := 41) hx hb hts hin10 hown hK.1 hP 0 rfl rfl 33 (by decide) (hts _ fl_X10_72) (fun _ h9 => h9) rfl dX10_foundAt_37 ?_
        refine lv_iload hx hb dX10_foundAt_40 (lv_at hl 5 rfl) ?_
        refine z_iald hx hb hK.1 hP 20 0 rfl rfl i rfl (show i < 5 by omega) (by decide) dX10_foundAt_42 ?_
        refine lv_aload_n hx hb dX10_foundAt_43 rfl (lv_at hl 0 rfl) ?_
        refine va_get (D := D) (ci := 10) (v := .ref (am 20)) (C := RX10) (T := TX10) (N := 41) hx hb hts hin10 hown hK.1 hP 0 rfl rfl 33 (by decide) (hts _ fl_X10_72) (fun _ h9 => h9) rfl dX10_foundAt_44 ?_
        refine lv_iload_n hx hb dX10_foundAt_47 rfl (lv_at hl 3 rfl) ?_
        refine z_iald hx hb hK.1 hP 20 0 rfl rfl b rfl (show b < 5 by omega) (by decide) dX10_foundAt_48 ?_
        refine lv_icmp_ne (tgt := 62) hx hb dX10_foundAt_49 (by decide) (fun c_3 => ?_) (fun c_3 => ?_)
        · skip
          refine lv_iconst (v := 0) hx hb dX10_foundAt_62 (by decide) ?_
          exact hJ_63 0 ls (show 0 = (zb (mAh fo i b = true)) from (zb_f (by unfold mAh; rw [decide_eq_true_eq]; exact fun z9 => z9.elim c_2 (fun y9 => c_3 y9.1))).symm) (show lv_has ls 7 [(0, .ref (am 0)), (1, .int (nI sp)), (2, .int (nI hh)), (3, .int (nI b)), (4, .int (mFa fo hh sp b i)), (5, .int (nI i))] from lv_sub hl [0, 1, 2, 3, 4, 5] rfl)
        · skip
          refine lv_iload hx hb dX10_foundAt_52 (lv_at hl 5 rfl) ?_
          refine lv_iload_n hx hb dX10_foundAt_54 rfl (lv_at hl 3 rfl) ?_
          refine lv_icmp_ge (tgt := 62) hx hb dX10_foundAt_55 (by decide) (fun c_4 => ?_) (fun c_4 => ?_)
          · skip
            refine lv_iconst (v := 0) hx hb dX10_foundAt_62 (by decide) ?_
            exact hJ_63 0 ls (show 0 = (zb (mAh fo i b = true)) from (zb_f (by unfold mAh; rw [decide_eq_true_eq]; exact fun z9 => z9.elim c_2 (fun y9 => absurd y9.2 (Int32.not_lt.mpr c_4)))).symm) (show lv_has ls 7 [(0, .ref (am 0)), (1, .int (nI sp)), (2, .int (nI hh)), (3, .int (nI b)), (4, .int (mFa fo hh sp b i)), (5, .int (nI i))] from lv_sub hl [0, 1, 2, 3, 4, 5] rfl)
          · skip
            refine lv_iconst (v := 1) hx hb dX10_foundAt_58 (by decide) ?_
            refine lv_goto (tgt := 63) hx hb dX10_foundAt_59 (by decide) ?_
            exact hJ_63 1 ls (show 1 = (zb (mAh fo i b = true)) from (zb_t (by unfold mAh; rw [decide_eq_true_eq]; exact Or.inr ⟨c_3, Int32.not_le.mp c_4⟩)).symm) (show lv_has ls 7 [(0, .ref (am 0)), (1, .int (nI sp)), (2, .int (nI hh)), (3, .int (nI b)), (4, .int (mFa fo hh sp b i)), (5, .int (nI i))] from lv_sub hl [0, 1, 2, 3, 4, 5] rfl)
    · skip
      intro a9 ls hI hl
      obtain ⟨u9, rfl⟩ : ∃ z, z = a9 := ⟨a9, rfl⟩
      have hI : u9 = (zb (mAh fo i b = true)) := hI
      subst hI
      have hl : lv_has ls 7 [(0, .ref (am 0)), (1, .int (nI sp)), (2, .int (nI hh)), (3, .int (nI b)), (4, .int (mFa fo hh sp b i)), (5, .int (nI i))] := hl
      refine lv_istore (lv' := [(6, .int (zb (mAh fo i b = true))), (0, .ref (am 0)), (1, .int (nI sp)), (2, .int (nI hh)), (3, .int (nI b)), (4, .int (mFa fo hh sp b i)), (5, .int (nI i))]) hx hb dX10_foundAt_63 hl (by decide) rfl (fun ls hl => ?_)
      refine lv_iload hx hb dX10_foundAt_65 (lv_at hl 5 rfl) ?_
      refine lv_iload hx hb dX10_foundAt_67 (lv_at hl 0 rfl) ?_
      refine lv_if_eq (tgt := 102) hx hb dX10_foundAt_69 (by decide) (fun c_5 => ?_) (fun c_5 => ?_)
      · skip
        have c_5 := zb_eq0 c_5
        refine lv_iconst (v := 0) hx hb dX10_foundAt_102 (by decide) ?_
        refine lv_iadd hx hb dX10_foundAt_103 ?_
        refine lv_istore (lv' := [(4, .int ((mFa fo hh sp b i) + 0)), (6, .int (zb (mAh fo i b = true))), (0, .ref (am 0)), (1, .int (nI sp)), (2, .int (nI hh)), (3, .int (nI b)), (5, .int (nI i))]) hx hb dX10_foundAt_104 hl (by decide) rfl (fun ls hl => ?_)
        have hl : lv_has ls 7 [(4, .int (mFa fo hh sp b (i + 1))), (6, .int (zb (mAh fo i b = true))), (0, .ref (am 0)), (1, .int (nI sp)), (2, .int (nI hh)), (3, .int (nI b)), (5, .int (nI i))] := by rw [show (mFa fo hh sp b (i + 1)) = ((mFa fo hh sp b i) + 0) from by rw [mFa, if_neg (fun z9 => c_5 z9.1)]]; exact hl
        refine lv_iinc (v := (nI (i + 1))) (lv' := [(5, .int (nI (i + 1))), (4, .int (mFa fo hh sp b (i + 1))), (6, .int (zb (mAh fo i b = true))), (0, .ref (am 0)), (1, .int (nI sp)), (2, .int (nI hh)), (3, .int (nI b))]) hx hb dX10_foundAt_106 hl (k := 6) rfl (nI_add i 1) (by decide) rfl (fun ls hl => ?_)
        refine lv_goto (tgt := 11) hx hb dX10_foundAt_109 (by decide) ?_
        exact ih_11 (i + 1) ls (show (i + 1) ≤ fo.1 from hlt) (show fo.1 - (i + 1) < fo.1 - i from by omega) (show lv_has ls 7 [(0, .ref (am 0)), (1, .int (nI sp)), (2, .int (nI hh)), (3, .int (nI b)), (4, .int (mFa fo hh sp b (i + 1))), (5, .int (nI (i + 1)))] from lv_sub hl [3, 4, 5, 6, 1, 0] rfl)
      · skip
        have c_5 := zb_ne0 c_5
        refine lv_aload_n hx hb dX10_foundAt_72 rfl (lv_at hl 1 rfl) ?_
        refine lv_iload_n hx hb dX10_foundAt_73 rfl (lv_at hl 2 rfl) ?_
        refine lv_iload_n hx hb dX10_foundAt_74 rfl (lv_at hl 3 rfl) ?_
        refine lv_iload hx hb dX10_foundAt_75 (lv_at hl 6 rfl) ?_
        refine ro_V (As := [.int (nI sp), .int (nI hh), .int (nI i)]) (rest := [.int (mFa fo hh sp b i)]) ⟨hx, hb, hml, hown, hts⟩ (c_X10_houndOf l D cI cZ am N hN16 S hS24 q o ho8 ro hr10 t ht6 fo hf5 k hk8 z sp hh i hsp hh0 hh3 hlt) (cw_X10_183 hts rfl rfl ⟨Nat.le_of_ble_eq_true rfl, Nat.le_of_ble_eq_true rfl⟩) hK hP (ci := 10) rfl rfl rfl hl.1 rfl (Nat.le_of_ble_eq_true rfl) dX10_foundAt_77 ⟨Nat.zero_le _, Nat.zero_le _⟩ ?_
        refine lv_aload_n hx hb dX10_foundAt_80 rfl (lv_at hl 1 rfl) ?_
        refine lv_iload_n hx hb dX10_foundAt_81 rfl (lv_at hl 2 rfl) ?_
        refine lv_iload_n hx hb dX10_foundAt_82 rfl (lv_at hl 3 rfl) ?_
        refine lv_iload_n hx hb dX10_foundAt_83 rfl (lv_at hl 4 rfl) ?_
        refine ro_V (As := [.int (nI sp), .int (nI hh), .int (nI b)]) (rest := [.int (nI (mHo fo.1 hh sp i)), .int (mFa fo hh sp b i)]) ⟨hx, hb, hml, hown, hts⟩ (c_X10_houndOf l D cI cZ am N hN16 S hS24 q o ho8 ro hr10 t ht6 fo hf5 k hk8 z sp hh b hsp hh0 hh3 hbf) (cw_X10_183 hts rfl rfl ⟨Nat.le_of_ble_eq_true rfl, Nat.le_of_ble_eq_true rfl⟩) hK hP (ci := 10) rfl rfl rfl hl.1 rfl (Nat.le_of_ble_eq_true rfl) dX10_foundAt_84 ⟨Nat.zero_le _, Nat.zero_le _⟩ ?_
        refine lv_icmp_ne (tgt := 102) hx hb dX10_foundAt_87 (by decide) (fun c_6 => ?_) (fun c_6 => ?_)
        · skip
          refine lv_iconst (v := 0) hx hb dX10_foundAt_102 (by decide) ?_
          refine lv_iadd hx hb dX10_foundAt_103 ?_
          refine lv_istore (lv' := [(4, .int ((mFa fo hh sp b i) + 0)), (6, .int (zb (mAh fo i b = true))), (0, .ref (am 0)), (1, .int (nI sp)), (2, .int (nI hh)), (3, .int (nI b)), (5, .int (nI i))]) hx hb dX10_foundAt_104 hl (by decide) rfl (fun ls hl => ?_)
          have hl : lv_has ls 7 [(4, .int (mFa fo hh sp b (i + 1))), (6, .int (zb (mAh fo i b = true))), (0, .ref (am 0)), (1, .int (nI sp)), (2, .int (nI hh)), (3, .int (nI b)), (5, .int (nI i))] := by rw [show (mFa fo hh sp b (i + 1)) = ((mFa fo hh sp b i) + 0) from by rw [mFa, if_neg (fun z9 => c_6 z9.2)]]; exact hl
          refine lv_iinc (v := (nI (i + 1))) (lv' := [(5, .int (nI (i + 1))), (4, .int (mFa fo hh sp b (i + 1))), (6, .int (zb (mAh fo i b = true))), (0, .ref (am 0)), (1, .int (nI sp)), (2, .int (nI hh)), (3, .int (nI b))]) hx hb dX10_foundAt_106 hl (k := 6) rfl (nI_add i 1) (by decide) rfl (fun ls hl => ?_)
          refine lv_goto (tgt := 11) hx hb dX10_foundAt_109 (by decide) ?_
          exact ih_11 (i + 1) ls (show (i + 1) ≤ fo.1 from hlt) (show fo.1 - (i + 1) < fo.1 - i from by omega) (show lv_has ls 7 [(0, .ref (am 0)), (1, .int (nI sp)), (2, .int (nI hh)), (3, .int (nI b)), (4, .int (mFa fo hh sp b (i + 1))), (5, .int (nI (i + 1)))] from lv_sub hl [3, 4, 5, 6, 1, 0] rfl)
        · skip
          refine lv_iconst (v := 2) hx hb dX10_foundAt_90 (by decide) ?_
          refine lv_aload_n hx hb dX10_foundAt_91 rfl (lv_at hl 1 rfl) ?_
          refine va_get (D := D) (ci := 10) (v := .ref (am 20)) (C := RX10) (T := TX10) (N := 41) hx hb hts hin10 hown hK.1 hP 0 rfl rfl 33 (by decide) (hts _ fl_X10_72) (fun _ h9 => h9) rfl dX10_foundAt_92 ?_
          refine lv_iload hx hb dX10_foundAt_95 (lv_at hl 6 rfl) ?_
          refine z_iald hx hb hK.1 hP 20 0 rfl rfl i rfl (show i < 5 by omega) (by decide) dX10_foundAt_97 ?_
          refine lv_imul hx hb dX10_foundAt_98 ?_
          refine lv_goto (tgt := 103) hx hb dX10_foundAt_99 (by decide) ?_
          refine lv_iadd hx hb dX10_foundAt_103 ?_
          refine lv_istore (lv' := [(4, .int ((mFa fo hh sp b i) + (2 * (fo.2 i)))), (6, .int (zb (mAh fo i b = true))), (0, .ref (am 0)), (1, .int (nI sp)), (2, .int (nI hh)), (3, .int (nI b)), (5, .int (nI i))]) hx hb dX10_foundAt_104 hl (by decide) rfl (fun ls hl => ?_)
          have hl : lv_has ls 7 [(4, .int (mFa fo hh sp b (i + 1))), (6, .int (zb (mAh fo i b = true))), (0, .ref (am 0)), (1, .int (nI sp)), (2, .int (nI hh)), (3, .int (nI b)), (5, .int (nI i))] := by rw [show (mFa fo hh sp b (i + 1)) = ((mFa fo hh sp b i) + (2 * (fo.2 i))) from by rw [mFa, if_pos ⟨c_5, c_6⟩]]; exact hl
          refine lv_iinc (v := (nI (i + 1))) (lv' := [(5, .int (nI (i + 1))), (4, .int (mFa fo hh sp b (i + 1))), (6, .int (zb (mAh fo i b = true))), (0, .ref (am 0)), (1, .int (nI sp)), (2, .int (nI hh)), (3, .int (nI b))]) hx hb dX10_foundAt_106 hl (k := 6) rfl (nI_add i 1) (by decide) rfl (fun ls hl => ?_)
          refine lv_goto (tgt := 11) hx hb dX10_foundAt_109 (by decide) ?_
          exact ih_11 (i + 1) ls (show (i + 1) ≤ fo.1 from hlt) (show fo.1 - (i + 1) < fo.1 - i from by omega) (show lv_has ls 7 [(0, .ref (am 0)), (1, .int (nI sp)), (2, .int (nI hh)), (3, .int (nI b)), (4, .int (mFa fo hh sp b (i + 1))), (5, .int (nI (i + 1)))] from lv_sub hl [3, 4, 5, 6, 1, 0] rfl)

theorem pw_le {hh n : Nat} (h3 : hh ≤ 3) (hn : n ≤ 5) : hh ^ n ≤ 243 :=
  Nat.le_trans (Nat.pow_le_pow_left h3 n) (Nat.le_trans (Nat.pow_le_pow_right (by decide) hn) (by decide))
def mZb (z : TZ) (b9 : Int32) : TZ := (z.1, z.2.1, z.2.2.1, z.2.2.2.1, z.2.2.2.2.1, z.2.2.2.2.2.1, b9, z.2.2.2.2.2.2.2)
set_option maxHeartbeats 4000000 in
set_option maxRecDepth 100000 in
theorem c_X10_findSplit (l : Launch) (D : va_G) (cI cZ : ClassId) (am : Nat → Nat) (N : TN) (hN16 : N_n N ≤ 16) (S : TS) (hS24 : S_n S ≤ 24) (q : TQ) (o : TO) (ho8 : o.1 ≤ 8) (ro : TR) (hr10 : ro.1 ≤ 10) (t : TT) (ht6 : t.1 ≤ 6) (fo : TF) (hf5 : fo.1 ≤ 5) (k : TC) (hk8 : k.2.1 ≤ 8) (z : TZ) (hh : Nat) (hh0 : 0 < hh) (hh3 : hh ≤ 3) : MI l D cI cZ yX10_findSplit wyX10_findSplit ({ frames := 2, cells := 0, slots := 0, locals := 51 } : Room) [.ref (am 0), .int (nI hh)] (wM am cI cZ N S q o ro t fo k z) (fun r _ => r = (mBf fo hh (hh ^ fo.1)).1) (fun (_ : Unit) => wM am cI cZ N S q o ro t fo k (mZb z (mBf fo hh (hh ^ fo.1)).2)) := by
  refine Met.ofW (cc := cX10_findSplit) (maxL := 8) (ret := (some .int)) (by decide) rfl ?_
  intro p e s m args below meth c s₁ B hml hv
  obtain ⟨rfl, hK, hP, hD0⟩ := hv
  have hx := B.exec
  have hb := B.bytes
  have hr := B.returns
  have hts0 := atoms_spec (ws := wyX10_findSplit) B.pre
  have hts : ∀ w ∈ big, w.before _ s = true := fun w h => hts0 w (List.mem_cons_of_mem _ h)
  have hown : s.vm.findClass RX10 = some m.cls := findClass_of_methodNamed B.named
  have hlocks := B.notSynchronized
  have hD := D_inW hD0
  have hS : va_S (inW (wM am cI cZ N S q o ro t fo k z)) s.heap s.heap [] := va_S.rf
  have hl := lv_entry ([.ref (am 0), .int (nI hh)]) (n := 8) (Nat.le_of_ble_eq_true rfl)
  rw [lg_entry_eq]
  generalize (lg_sl ([.ref (am 0), .int (nI hh)]) ++ List.replicate (8 - (lg_sl ([.ref (am 0), .int (nI hh)])).length) Slot.unset).toArray = ls at hl ⊢
  have hl : lv_has ls 8 [(0, .ref (am 0)), (1, .int (nI hh))] := hl
  refine lv_iconst (v := 1) hx hb dX10_findSplit_0 (by decide) ?_
  refine lv_istore_n (lv' := [(2, .int 1), (0, .ref (am 0)), (1, .int (nI hh))]) hx hb dX10_findSplit_1 rfl hl (by decide) rfl (fun ls hl => ?_)
  have hl : lv_has ls 8 [(2, .int (nI (hh ^ 0))), (0, .ref (am 0)), (1, .int (nI hh))] := hl
  refine lv_iconst (v := 0) hx hb dX10_findSplit_2 (by decide) ?_
  refine lv_istore_n (lv' := [(3, .int 0), (2, .int (nI (hh ^ 0))), (0, .ref (am 0)), (1, .int (nI hh))]) hx hb dX10_findSplit_3 rfl hl (by decide) rfl (fun ls hl => ?_)
  refine w_loop (α := Nat) (fun a9 => a9 ≤ fo.1) (fun a9 => fo.1 - a9) (fun a9 => [(0, .ref (am 0)), (1, .int (nI hh)), (2, .int (nI (hh ^ a9))), (3, .int (nI a9))]) 4 8 ?_ 0 (Nat.zero_le _) (show lv_has ls 8 [(0, .ref (am 0)), (1, .int (nI hh)), (2, .int (nI (hh ^ 0))), (3, .int (nI 0))] from lv_sub hl [2, 3, 1, 0] rfl)
  intro a9 ls hI hl ih_4
  obtain ⟨i, rfl⟩ : ∃ z, z = a9 := ⟨a9, rfl⟩
  have hI : i ≤ fo.1 := hI
  have hl : lv_has ls 8 [(0, .ref (am 0)), (1, .int (nI hh)), (2, .int (nI (hh ^ i))), (3, .int (nI i))] := hl
  have hI1 := hI
  refine lv_iload_n hx hb dX10_findSplit_4 rfl (lv_at hl 3 rfl) ?_
  refine lv_aload_n hx hb dX10_findSplit_5 rfl (lv_at hl 0 rfl) ?_
  refine va_get (D := D) (ci := 10) (v := .int (nI fo.1)) (C := RX10) (T := TX10) (N := 41) hx hb hts hin10 hown hK.1 hP 0 rfl rfl 32 (by decide) (hts _ fl_X10_180) (fun _ h9 => h9) rfl dX10_findSplit_6 ?_
  refine lv_icmp_ge (tgt := 22) hx hb dX10_findSplit_9 (by decide) (fun c_1 => ?_) (fun c_1 => ?_)
  · skip
    have hge : fo.1 ≤ i := zge (by have := hI; omega) (by omega) c_1
    have hl : lv_has ls 8 [(0, .ref (am 0)), (1, .int (nI hh)), (2, .int (nI (hh ^ fo.1))), (3, .int (nI fo.1))] := by have h9 := hl; rw [show i = fo.1 by omega] at h9; exact h9
    refine lv_iconst (v := 0) hx hb dX10_findSplit_22 (by decide) ?_
    refine lv_istore_n (lv' := [(3, .int 0), (0, .ref (am 0)), (1, .int (nI hh)), (2, .int (nI (hh ^ fo.1)))]) hx hb dX10_findSplit_23 rfl hl (by decide) rfl (fun ls hl => ?_)
    refine lv_aload_n hx hb dX10_findSplit_24 rfl (lv_at hl 1 rfl) ?_
    refine lv_iconst (v := (-1)) hx hb dX10_findSplit_25 (by decide) ?_
    refine va_put (D := D) (ci := 10) (v := .int (-1)) (ty := .int) (C := RX10) (T := TX10) (N := 41) hx hb hts hin10 tyX10 tyX10_ok nmX10 hown hK.1 hP hD hS 0 rfl rfl 34 (by decide) (hts _ fl_X10_187) (fun _ h9 => h9) rfl (by decide +kernel) rfl rfl (Nat.le_of_ble_eq_true rfl) dX10_findSplit_26 (fun H locs hP hD hS => ?_)
    have hP : va_P D vwCl (wM am cI cZ N S q o ro t fo k (z.1, z.2.1, z.2.2.1, z.2.2.2.1, z.2.2.2.2.1, z.2.2.2.2.2.1, (-1), z.2.2.2.2.2.2.2)) H := hP
    have hD : va_D _ (wM am cI cZ N S q o ro t fo k (z.1, z.2.1, z.2.2.1, z.2.2.2.1, z.2.2.2.2.1, z.2.2.2.2.2.1, (-1), z.2.2.2.2.2.2.2)) := hD
    refine lv_iconst (v := 0) hx hb dX10_findSplit_29 (by decide) ?_
    refine lv_istore (lv' := [(4, .int 0), (3, .int 0), (0, .ref (am 0)), (1, .int (nI hh)), (2, .int (nI (hh ^ fo.1)))]) hx hb dX10_findSplit_30 hl (by decide) rfl (fun ls hl => ?_)
    refine w_loopH (α := Nat) (fun a9 => a9 ≤ hh ^ fo.1) (fun a9 => hh ^ fo.1 - a9) (fun a9 => wM am cI cZ N S q o ro t fo k (z.1, z.2.1, z.2.2.1, z.2.2.2.1, z.2.2.2.2.1, z.2.2.2.2.2.1, (mBf fo hh a9).2, z.2.2.2.2.2.2.2)) (fun a9 => [(0, .ref (am 0)), (1, .int (nI hh)), (2, .int (nI (hh ^ fo.1))), (3, .int ((mBf fo hh a9).1)), (4, .int (nI a9))]) 32 8 ?_ 0 (Nat.zero_le _) (show lv_has ls 8 [(0, .ref (am 0)), (1, .int (nI hh)), (2, .int (nI (hh ^ fo.1))), (3, .int ((mBf fo hh 0).1)), (4, .int (nI 0))] from lv_sub hl [2, 3, 4, 1, 0] rfl) hP hD hS
    intro a9 ls H locs hI hl hP hD hS ih_32
    obtain ⟨s9, rfl⟩ : ∃ z, z = a9 := ⟨a9, rfl⟩
    have hI : s9 ≤ hh ^ fo.1 := hI
    have hl : lv_has ls 8 [(0, .ref (am 0)), (1, .int (nI hh)), (2, .int (nI (hh ^ fo.1))), (3, .int ((mBf fo hh s9).1)), (4, .int (nI s9))] := hl
    have hP : va_P D vwCl (wM am cI cZ N S q o ro t fo k (z.1, z.2.1, z.2.2.1, z.2.2.2.1, z.2.2.2.2.1, z.2.2.2.2.2.1, (mBf fo hh s9).2, z.2.2.2.2.2.2.2)) H := hP
    have hD : va_D _ (wM am cI cZ N S q o ro t fo k (z.1, z.2.1, z.2.2.1, z.2.2.2.1, z.2.2.2.2.1, z.2.2.2.2.2.1, (mBf fo hh s9).2, z.2.2.2.2.2.2.2)) := hD
    refine lv_iload hx hb dX10_findSplit_32 (lv_at hl 4 rfl) ?_
    refine lv_iload_n hx hb dX10_findSplit_34 rfl (lv_at hl 2 rfl) ?_
    refine lv_icmp_ge (tgt := 146) hx hb dX10_findSplit_35 (by decide) (fun c_2 => ?_) (fun c_2 => ?_)
    · skip
      have hge_s : hh ^ fo.1 ≤ s9 := zge (by have := hI; have := pw_le hh3 hf5; omega) (by have := pw_le hh3 hf5; omega) c_2
      refine lv_iload_n hx hb dX10_findSplit_146 rfl (lv_at hl 3 rfl) ?_
      exact mu_iret (v := (mBf fo hh s9).1) hx hb hr hlocks (()) (by show _ = _; rw [show hh ^ fo.1 = s9 by omega]) (by show va_P D vwCl (wM am cI cZ N S q o ro t fo k (mZb z (mBf fo hh (hh ^ fo.1)).2)) _; rw [show hh ^ fo.1 = s9 by omega]; exact hP) hS dX10_findSplit_147
    · skip
      have hlt_s : s9 < hh ^ fo.1 := zlt (by have := hI; have := pw_le hh3 hf5; omega) (by have := pw_le hh3 hf5; omega) c_2
      have hsp9 : s9 < 2 ^ 31 := by have := pw_le hh3 hf5; omega
      refine lv_iconst (v := 0) hx hb dX10_findSplit_38 (by decide) ?_
      refine lv_istore (lv' := [(5, .int 0), (0, .ref (am 0)), (1, .int (nI hh)), (2, .int (nI (hh ^ fo.1))), (3, .int ((mBf fo hh s9).1)), (4, .int (nI s9))]) hx hb dX10_findSplit_39 hl (by decide) rfl (fun ls hl => ?_)
      refine lv_iconst (v := 0) hx hb dX10_findSplit_41 (by decide) ?_
      refine lv_istore (lv' := [(6, .int 0), (5, .int 0), (0, .ref (am 0)), (1, .int (nI hh)), (2, .int (nI (hh ^ fo.1))), (3, .int ((mBf fo hh s9).1)), (4, .int (nI s9))]) hx hb dX10_findSplit_42 hl (by decide) rfl (fun ls hl => ?_)
      refine w_loop (α := Nat) (fun a9 => a9 ≤ fo.1) (fun a9 => fo.1 - a9) (fun a9 => [(0, .ref (am 0)), (1, .int (nI hh)), (2, .int (nI (hh ^ fo.1))), (3, .int ((mBf fo hh s9).1)), (4, .int (nI s9)), (5, .int (mWs fo hh s9 a9)), (6, .int (nI a9))]) 44 8 ?_ 0 (Nat.zero_le _) (show lv_has ls 8 [(0, .ref (am 0)), (1, .int (nI hh)), (2, .int (nI (hh ^ fo.1))), (3, .int ((mBf fo hh s9).1)), (4, .int (nI s9)), (5, .int (mWs fo hh s9 0)), (6, .int (nI 0))] from lv_sub hl [2, 3, 4, 5, 6, 1, 0] rfl)
      intro a9 ls hI hl ih_44
      obtain ⟨b, rfl⟩ : ∃ z, z = a9 := ⟨a9, rfl⟩
      have hI : b ≤ fo.1 := hI
      have hl : lv_has ls 8 [(0, .ref (am 0)), (1, .int (nI hh)), (2, .int (nI (hh ^ fo.1))), (3, .int ((mBf fo hh s9).1)), (4, .int (nI s9)), (5, .int (mWs fo hh s9 b)), (6, .int (nI b))] := hl
      refine lv_iload hx hb dX10_findSplit_44 (lv_at hl 6 rfl) ?_
      refine lv_aload_n hx hb dX10_findSplit_46 rfl (lv_at hl 0 rfl) ?_
      refine va_get (D := D) (ci := 10) (v := .int (nI fo.1)) (C := RX10) (T := TX10) (N := 41) hx hb hts hin10 hown hK.1 hP 0 rfl rfl 32 (by decide) (hts _ fl_X10_180) (fun _ h9 => h9) rfl dX10_findSplit_47 ?_
      refine lv_icmp_ge (tgt := 86) hx hb dX10_findSplit_50 (by decide) (fun c_3 => ?_) (fun c_3 => ?_)
      · skip
        have hge : fo.1 ≤ b := zge (by have := hI; omega) (by omega) c_3
        have ebn : fo.1 = b := by have := hI; omega
        have hl : lv_has ls 8 [(0, .ref (am 0)), (1, .int (nI hh)), (2, .int (nI (hh ^ fo.1))), (3, .int ((mBf fo hh s9).1)), (4, .int (nI s9)), (5, .int (mWs fo hh s9 fo.1)), (6, .int (nI b))] := by rw [ebn]; rw [ebn] at hl; exact hl
        refine w_join (α := Int32) (fun a9 => a9 = (mBf fo hh (s9 + 1)).1) (fun a9 => [(0, .ref (am 0)), (1, .int (nI hh)), (2, .int (nI (hh ^ fo.1))), (3, .int ((mBf fo hh s9).1)), (4, .int (nI s9)), (5, .int (mWs fo hh s9 fo.1)), (6, .int (nI b))]) (fun a9 => [.int a9]) 109 8 (fun hJ_109 => ?_) ?_
        · skip
          refine lv_aload_n hx hb dX10_findSplit_86 rfl (lv_at hl 0 rfl) ?_
          refine va_get (D := D) (ci := 10) (v := .int ((mBf fo hh s9).2)) (C := RX10) (T := TX10) (N := 41) hx hb hts hin10 hown hK.1 hP 0 rfl rfl 34 (by decide) (hts _ fl_X10_187) (fun _ h9 => h9) rfl dX10_findSplit_87 ?_
          refine lv_iconst (v := (-1)) hx hb dX10_findSplit_90 (by decide) ?_
          refine lv_icmp_eq (tgt := 103) hx hb dX10_findSplit_91 (by decide) (fun c_4 => ?_) (fun c_4 => ?_)
          · skip
            refine lv_iload hx hb dX10_findSplit_103 (lv_at hl 4 rfl) ?_
            refine lv_goto (tgt := 109) hx hb dX10_findSplit_105 (by decide) ?_
            exact hJ_109 (nI s9) ls (show (nI s9) = (mBf fo hh (s9 + 1)).1 from by rw [mBf, if_pos (Or.inl c_4)]) (show lv_has ls 8 [(0, .ref (am 0)), (1, .int (nI hh)), (2, .int (nI (hh ^ fo.1))), (3, .int ((mBf fo hh s9).1)), (4, .int (nI s9)), (5, .int (mWs fo hh s9 fo.1)), (6, .int (nI b))] from lv_sub hl [0, 1, 2, 3, 4, 5, 6] rfl)
          · skip
            refine lv_iload hx hb dX10_findSplit_94 (lv_at hl 5 rfl) ?_
            refine lv_aload_n hx hb dX10_findSplit_96 rfl (lv_at hl 0 rfl) ?_
            refine va_get (D := D) (ci := 10) (v := .int ((mBf fo hh s9).2)) (C := RX10) (T := TX10) (N := 41) hx hb hts hin10 hown hK.1 hP 0 rfl rfl 34 (by decide) (hts _ fl_X10_187) (fun _ h9 => h9) rfl dX10_findSplit_97 ?_
            refine lv_icmp_ge (tgt := 108) hx hb dX10_findSplit_100 (by decide) (fun c_5 => ?_) (fun c_5 => ?_)
            · skip
              refine lv_iload_n hx hb dX10_findSplit_108 rfl (lv_at hl 3 rfl) ?_
              exact hJ_109 ((mBf fo hh s9).1) ls (show ((mBf fo hh s9).1) = (mBf fo hh (s9 + 1)).1 from by rw [mBf, if_neg (fun z9 => z9.elim c_4 (fun y9 => absurd y9 (Int32.not_lt.mpr c_5)))]) (show lv_has ls 8 [(0, .ref (am 0)), (1, .int (nI hh)), (2, .int (nI (hh ^ fo.1))), (3, .int ((mBf fo hh s9).1)), (4, .int (nI s9)), (5, .int (mWs fo hh s9 fo.1)), (6, .int (nI b))] from lv_sub hl [0, 1, 2, 3, 4, 5, 6] rfl)
            · skip
              refine lv_iload hx hb dX10_findSplit_103 (lv_at hl 4 rfl) ?_
              refine lv_goto (tgt := 109) hx hb dX10_findSplit_105 (by decide) ?_
              exact hJ_109 (nI s9) ls (show (nI s9) = (mBf fo hh (s9 + 1)).1 from by rw [mBf, if_pos (Or.inr (Int32.not_le.mp c_5))]) (show lv_has ls 8 [(0, .ref (am 0)), (1, .int (nI hh)), (2, .int (nI (hh ^ fo.1))), (3, .int ((mBf fo hh s9).1)), (4, .int (nI s9)), (5, .int (mWs fo hh s9 fo.1)), (6, .int (nI b))] from lv_sub hl [0, 1, 2, 3, 4, 5, 6] rfl)
        · skip
          intro a9 ls hI hl
          obtain ⟨u9, rfl⟩ : ∃ z, z = a9 := ⟨a9, rfl⟩
          have hI : u9 = (mBf fo hh (s9 + 1)).1 := hI
          subst hI
          have hl : lv_has ls 8 [(0, .ref (am 0)), (1, .int (nI hh)), (2, .int (nI (hh ^ fo.1))), (3, .int ((mBf fo hh s9).1)), (4, .int (nI s9)), (5, .int (mWs fo hh s9 fo.1)), (6, .int (nI b))] := hl
          refine lv_istore_n (lv' := [(3, .int ((mBf fo hh (s9 + 1)).1)), (0, .ref (am 0)), (1, .int (nI hh)), (2, .int (nI (hh ^ fo.1))), (4, .int (nI s9)), (5, .int (mWs fo hh s9 fo.1)), (6, .int (nI b))]) hx hb dX10_findSplit_109 rfl hl (by decide) rfl (fun ls hl => ?_)
          refine lv_aload_n hx hb dX10_findSplit_110 rfl (lv_at hl 1 rfl) ?_
          refine w_join (α := Int32) (fun a9 => a9 = (mBf fo hh (s9 + 1)).2) (fun a9 => [(0, .ref (am 0)), (1, .int (nI hh)), (2, .int (nI (hh ^ fo.1))), (3, .int ((mBf fo hh (s9 + 1)).1)), (4, .int (nI s9)), (5, .int (mWs fo hh s9 fo.1)), (6, .int (nI b))]) (fun a9 => [.int a9, .ref (am 0)]) 137 8 (fun hJ_137 => ?_) ?_
          · skip
            refine lv_aload_n hx hb dX10_findSplit_111 rfl (lv_at hl 1 rfl) ?_
            refine va_get (D := D) (ci := 10) (v := .int ((mBf fo hh s9).2)) (C := RX10) (T := TX10) (N := 41) hx hb hts hin10 hown hK.1 hP 0 rfl rfl 34 (by decide) (hts _ fl_X10_187) (fun _ h9 => h9) rfl dX10_findSplit_112 ?_
            refine lv_iconst (v := (-1)) hx hb dX10_findSplit_115 (by decide) ?_
            refine lv_icmp_eq (tgt := 128) hx hb dX10_findSplit_116 (by decide) (fun c_6 => ?_) (fun c_6 => ?_)
            · skip
              refine lv_iload hx hb dX10_findSplit_128 (lv_at hl 5 rfl) ?_
              refine lv_goto (tgt := 137) hx hb dX10_findSplit_130 (by decide) ?_
              exact hJ_137 (mWs fo hh s9 fo.1) ls (show (mWs fo hh s9 fo.1) = (mBf fo hh (s9 + 1)).2 from by rw [mBf, if_pos (Or.inl c_6)]) (show lv_has ls 8 [(0, .ref (am 0)), (1, .int (nI hh)), (2, .int (nI (hh ^ fo.1))), (3, .int ((mBf fo hh (s9 + 1)).1)), (4, .int (nI s9)), (5, .int (mWs fo hh s9 fo.1)), (6, .int (nI b))] from lv_sub hl [1, 2, 3, 0, 4, 5, 6] rfl)
            · skip
              refine lv_iload hx hb dX10_findSplit_119 (lv_at hl 5 rfl) ?_
              refine lv_aload_n hx hb dX10_findSplit_121 rfl (lv_at hl 1 rfl) ?_
              refine va_get (D := D) (ci := 10) (v := .int ((mBf fo hh s9).2)) (C := RX10) (T := TX10) (N := 41) hx hb hts hin10 hown hK.1 hP 0 rfl rfl 34 (by decide) (hts _ fl_X10_187) (fun _ h9 => h9) rfl dX10_findSplit_122 ?_
              refine lv_icmp_ge (tgt := 133) hx hb dX10_findSplit_125 (by decide) (fun c_7 => ?_) (fun c_7 => ?_)
              · skip
                refine lv_aload_n hx hb dX10_findSplit_133 rfl (lv_at hl 1 rfl) ?_
                refine va_get (D := D) (ci := 10) (v := .int ((mBf fo hh s9).2)) (C := RX10) (T := TX10) (N := 41) hx hb hts hin10 hown hK.1 hP 0 rfl rfl 34 (by decide) (hts _ fl_X10_187) (fun _ h9 => h9) rfl dX10_findSplit_134 ?_
                exact hJ_137 ((mBf fo hh s9).2) ls (show ((mBf fo hh s9).2) = (mBf fo hh (s9 + 1)).2 from by rw [mBf, if_neg (fun z9 => z9.elim c_6 (fun y9 => absurd y9 (Int32.not_lt.mpr c_7)))]) (show lv_has ls 8 [(0, .ref (am 0)), (1, .int (nI hh)), (2, .int (nI (hh ^ fo.1))), (3, .int ((mBf fo hh (s9 + 1)).1)), (4, .int (nI s9)), (5, .int (mWs fo hh s9 fo.1)), (6, .int (nI b))] from lv_sub hl [1, 2, 3, 0, 4, 5, 6] rfl)
              · skip
                refine lv_iload hx hb dX10_findSplit_128 (lv_at hl 5 rfl) ?_
                refine lv_goto (tgt := 137) hx hb dX10_findSplit_130 (by decide) ?_
                exact hJ_137 (mWs fo hh s9 fo.1) ls (show (mWs fo hh s9 fo.1) = (mBf fo hh (s9 + 1)).2 from by rw [mBf, if_pos (Or.inr (Int32.not_le.mp c_7))]) (show lv_has ls 8 [(0, .ref (am 0)), (1, .int (nI hh)), (2, .int (nI (hh ^ fo.1))), (3, .int ((mBf fo hh (s9 + 1)).1)), (4, .int (nI s9)), (5, .int (mWs fo hh s9 fo.1)), (6, .int (nI b))] from lv_sub hl [1, 2, 3, 0, 4, 5, 6] rfl)
          · skip
            intro a9 ls hI hl
            obtain ⟨u9, rfl⟩ : ∃ z, z = a9 := ⟨a9, rfl⟩
            have hI : u9 = (mBf fo hh (s9 + 1)).2 := hI
            subst hI
            have hl : lv_has ls 8 [(0, .ref (am 0)), (1, .int (nI hh)), (2, .int (nI (hh ^ fo.1))), (3, .int ((mBf fo hh (s9 + 1)).1)), (4, .int (nI s9)), (5, .int (mWs fo hh s9 fo.1)), (6, .int (nI b))] := hl
            refine va_put (D := D) (ci := 10) (v := .int ((mBf fo hh (s9 + 1)).2)) (ty := .int) (C := RX10) (T := TX10) (N := 41) hx hb hts hin10 tyX10 tyX10_ok nmX10 hown hK.1 hP hD hS 0 rfl rfl 34 (by decide) (hts _ fl_X10_187) (fun _ h9 => h9) rfl (by decide +kernel) rfl rfl (Nat.le_of_ble_eq_true rfl) dX10_findSplit_137 (fun H locs hP hD hS => ?_)
            have hP : va_P D vwCl (wM am cI cZ N S q o ro t fo k (z.1, z.2.1, z.2.2.1, z.2.2.2.1, z.2.2.2.2.1, z.2.2.2.2.2.1, (mBf fo hh (s9 + 1)).2, z.2.2.2.2.2.2.2)) H := hP
            have hD : va_D _ (wM am cI cZ N S q o ro t fo k (z.1, z.2.1, z.2.2.1, z.2.2.2.1, z.2.2.2.2.1, z.2.2.2.2.2.1, (mBf fo hh (s9 + 1)).2, z.2.2.2.2.2.2.2)) := hD
            refine lv_iinc (v := (nI (s9 + 1))) (lv' := [(4, .int (nI (s9 + 1))), (0, .ref (am 0)), (1, .int (nI hh)), (2, .int (nI (hh ^ fo.1))), (3, .int ((mBf fo hh (s9 + 1)).1)), (5, .int (mWs fo hh s9 fo.1)), (6, .int (nI b))]) hx hb dX10_findSplit_140 hl (k := 4) rfl (nI_add s9 1) (by decide) rfl (fun ls hl => ?_)
            refine lv_goto (tgt := 32) hx hb dX10_findSplit_143 (by decide) ?_
            exact ih_32 (s9 + 1) ls H locs (show (s9 + 1) ≤ hh ^ fo.1 from hlt_s) (show hh ^ fo.1 - (s9 + 1) < hh ^ fo.1 - s9 from by omega) (show lv_has ls 8 [(0, .ref (am 0)), (1, .int (nI hh)), (2, .int (nI (hh ^ fo.1))), (3, .int ((mBf fo hh (s9 + 1)).1)), (4, .int (nI (s9 + 1)))] from lv_sub hl [1, 2, 3, 4, 0] rfl) hP hD hS
      · skip
        have hlt : b < fo.1 := zlt (by have := hI; omega) (by omega) c_3
        refine lv_aload_n hx hb dX10_findSplit_53 rfl (lv_at hl 0 rfl) ?_
        refine lv_iload hx hb dX10_findSplit_54 (lv_at hl 4 rfl) ?_
        refine lv_iload_n hx hb dX10_findSplit_56 rfl (lv_at hl 1 rfl) ?_
        refine lv_iload hx hb dX10_findSplit_57 (lv_at hl 6 rfl) ?_
        refine ro_V (As := [.int (nI s9), .int (nI hh), .int (nI b)]) (rest := []) ⟨hx, hb, hml, hown, hts⟩ (c_X10_foundAt l D cI cZ am N hN16 S hS24 q o ho8 ro hr10 t ht6 fo hf5 k hk8 (z.1, z.2.1, z.2.2.1, z.2.2.2.1, z.2.2.2.2.1, z.2.2.2.2.2.1, (mBf fo hh s9).2, z.2.2.2.2.2.2.2) s9 hh b hsp9 hh0 hh3 hlt) (cw_X10_190 hts rfl rfl ⟨Nat.le_of_ble_eq_true rfl, Nat.le_of_ble_eq_true rfl⟩) hK hP (ci := 10) rfl rfl rfl hl.1 rfl (Nat.le_of_ble_eq_true rfl) dX10_findSplit_59 ⟨Nat.zero_le _, Nat.zero_le _⟩ ?_
        refine lv_istore (lv' := [(7, .int (mFa fo hh s9 b fo.1)), (0, .ref (am 0)), (1, .int (nI hh)), (2, .int (nI (hh ^ fo.1))), (3, .int ((mBf fo hh s9).1)), (4, .int (nI s9)), (5, .int (mWs fo hh s9 b)), (6, .int (nI b))]) hx hb dX10_findSplit_62 hl (by decide) rfl (fun ls hl => ?_)
        refine lv_iload hx hb dX10_findSplit_64 (lv_at hl 0 rfl) ?_
        refine lv_iload hx hb dX10_findSplit_66 (lv_at hl 6 rfl) ?_
        refine lv_icmp_le (tgt := 76) hx hb dX10_findSplit_68 (by decide) (fun c_8 => ?_) (fun c_8 => ?_)
        · skip
          refine lv_iload hx hb dX10_findSplit_76 (lv_at hl 6 rfl) ?_
          refine lv_istore (lv' := [(5, .int (mWs fo hh s9 b)), (7, .int (mFa fo hh s9 b fo.1)), (0, .ref (am 0)), (1, .int (nI hh)), (2, .int (nI (hh ^ fo.1))), (3, .int ((mBf fo hh s9).1)), (4, .int (nI s9)), (6, .int (nI b))]) hx hb dX10_findSplit_78 hl (by decide) rfl (fun ls hl => ?_)
          have hl : lv_has ls 8 [(5, .int (mWs fo hh s9 (b + 1))), (7, .int (mFa fo hh s9 b fo.1)), (0, .ref (am 0)), (1, .int (nI hh)), (2, .int (nI (hh ^ fo.1))), (3, .int ((mBf fo hh s9).1)), (4, .int (nI s9)), (6, .int (nI b))] := by rw [show (mWs fo hh s9 (b + 1)) = (mWs fo hh s9 b) from by rw [mWs]; rw [if_neg (Int32.not_lt.mpr c_8)]]; exact hl
          refine lv_iinc (v := (nI (b + 1))) (lv' := [(6, .int (nI (b + 1))), (5, .int (mWs fo hh s9 (b + 1))), (7, .int (mFa fo hh s9 b fo.1)), (0, .ref (am 0)), (1, .int (nI hh)), (2, .int (nI (hh ^ fo.1))), (3, .int ((mBf fo hh s9).1)), (4, .int (nI s9))]) hx hb dX10_findSplit_80 hl (k := 7) rfl (nI_add b 1) (by decide) rfl (fun ls hl => ?_)
          refine lv_goto (tgt := 44) hx hb dX10_findSplit_83 (by decide) ?_
          exact ih_44 (b + 1) ls (show (b + 1) ≤ fo.1 from hlt) (show fo.1 - (b + 1) < fo.1 - b from by omega) (show lv_has ls 8 [(0, .ref (am 0)), (1, .int (nI hh)), (2, .int (nI (hh ^ fo.1))), (3, .int ((mBf fo hh s9).1)), (4, .int (nI s9)), (5, .int (mWs fo hh s9 (b + 1))), (6, .int (nI (b + 1)))] from lv_sub hl [3, 4, 5, 6, 7, 1, 0] rfl)
        · skip
          refine lv_iload hx hb dX10_findSplit_71 (lv_at hl 0 rfl) ?_
          refine lv_goto (tgt := 78) hx hb dX10_findSplit_73 (by decide) ?_
          refine lv_istore (lv' := [(5, .int (mFa fo hh s9 b fo.1)), (7, .int (mFa fo hh s9 b fo.1)), (0, .ref (am 0)), (1, .int (nI hh)), (2, .int (nI (hh ^ fo.1))), (3, .int ((mBf fo hh s9).1)), (4, .int (nI s9)), (6, .int (nI b))]) hx hb dX10_findSplit_78 hl (by decide) rfl (fun ls hl => ?_)
          have hl : lv_has ls 8 [(5, .int (mWs fo hh s9 (b + 1))), (7, .int (mFa fo hh s9 b fo.1)), (0, .ref (am 0)), (1, .int (nI hh)), (2, .int (nI (hh ^ fo.1))), (3, .int ((mBf fo hh s9).1)), (4, .int (nI s9)), (6, .int (nI b))] := by rw [show (mWs fo hh s9 (b + 1)) = (mFa fo hh s9 b fo.1) from by rw [mWs]; rw [if_pos (Int32.not_le.mp c_8)]]; exact hl
          refine lv_iinc (v := (nI (b + 1))) (lv' := [(6, .int (nI (b + 1))), (5, .int (mWs fo hh s9 (b + 1))), (7, .int (mFa fo hh s9 b fo.1)), (0, .ref (am 0)), (1, .int (nI hh)), (2, .int (nI (hh ^ fo.1))), (3, .int ((mBf fo hh s9).1)), (4, .int (nI s9))]) hx hb dX10_findSplit_80 hl (k := 7) rfl (nI_add b 1) (by decide) rfl (fun ls hl => ?_)
          refine lv_goto (tgt := 44) hx hb dX10_findSplit_83 (by decide) ?_
          exact ih_44 (b + 1) ls (show (b + 1) ≤ fo.1 from hlt) (show fo.1 - (b + 1) < fo.1 - b from by omega) (show lv_has ls 8 [(0, .ref (am 0)), (1, .int (nI hh)), (2, .int (nI (hh ^ fo.1))), (3, .int ((mBf fo hh s9).1)), (4, .int (nI s9)), (5, .int (mWs fo hh s9 (b + 1))), (6, .int (nI (b + 1)))] from lv_sub hl [3, 4, 5, 6, 7, 1, 0] rfl)
  · skip
    have hlt : i < fo.1 := zlt (by have := hI; omega) (by omega) c_1
    refine lv_iload_n hx hb dX10_findSplit_12 rfl (lv_at hl 2 rfl) ?_
    refine lv_iload_n hx hb dX10_findSplit_13 rfl (lv_at hl 1 rfl) ?_
    refine lv_imul hx hb dX10_findSplit_14 ?_
    rw [show nI (hh ^ i) * nI hh = nI (hh ^ (i + 1)) from pk_mul (hh ^ i) hh]
    refine lv_istore_n (lv' := [(2, .int (nI (hh ^ (i + 1)))), (0, .ref (am 0)), (1, .int (nI hh)), (3, .int (nI i))]) hx hb dX10_findSplit_15 rfl hl (by decide) rfl (fun ls hl => ?_)
    refine lv_iinc (v := (nI (i + 1))) (lv' := [(3, .int (nI (i + 1))), (2, .int (nI (hh ^ (i + 1)))), (0, .ref (am 0)), (1, .int (nI hh))]) hx hb dX10_findSplit_16 hl (k := 3) rfl (nI_add i 1) (by decide) rfl (fun ls hl => ?_)
    refine lv_goto (tgt := 4) hx hb dX10_findSplit_19 (by decide) ?_
    exact ih_4 (i + 1) ls (show (i + 1) ≤ fo.1 from hlt) (show fo.1 - (i + 1) < fo.1 - i from by omega) (show lv_has ls 8 [(0, .ref (am 0)), (1, .int (nI hh)), (2, .int (nI (hh ^ (i + 1)))), (3, .int (nI (i + 1)))] from lv_sub hl [2, 3, 1, 0] rfl)
