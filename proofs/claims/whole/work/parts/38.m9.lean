def mX (t : TT) (tt uu av bv : Nat) : Bool := decide (t.2.1 (6 * tt + av) = t.2.1 (6 * uu + bv) ∧ (0 < nI av ∨ 0 < nI bv))
def mXo (t : TT) (zf : Nat → Nat) (tt uu av : Nat) : Bool := anyB (mX t tt uu av) (zf uu)
def mDc (t : TT) (zf : Nat → Nat) (tt uu : Nat) : Bool := anyB (mXo t zf tt uu) (zf tt)
set_option maxHeartbeats 4000000 in
set_option maxRecDepth 100000 in
theorem c_X10_doCross (l : Launch) (D : va_G) (cI cZ : ClassId) (am : Nat → Nat) (N : TN) (hN16 : N_n N ≤ 16) (S : TS) (hS24 : S_n S ≤ 24) (q : TQ) (o : TO) (ho8 : o.1 ≤ 8) (ro : TR) (hr10 : ro.1 ≤ 10) (t : TT) (ht6 : t.1 ≤ 6) (fo : TF) (hf5 : fo.1 ≤ 5) (k : TC) (hk8 : k.2.1 ≤ 8) (z : TZ) (zf : Nat → Nat) (hzf : ∀ i, i < t.1 → t.2.2.1 i = nI (zf i) ∧ zf i ≤ 6) (tt uu : Nat) (htt : tt < t.1) (huu : uu < t.1) : RO l D cI cZ yX10_doCross wyX10_doCross ({ frames := 0, cells := 0, slots := 0, locals := 0 } : Room) [.ref (am 0), .int (nI tt), .int (nI uu)] (wM am cI cZ N S q o ro t fo k z) (zb (mDc t zf tt uu = true)) := by
  refine Met.ofW (cc := cX10_doCross) (maxL := 6) (ret := (some .boolean)) (by decide) rfl ?_
  intro p e s m args below meth c s₁ B hml hv
  obtain ⟨rfl, hK, hP⟩ := hv
  have hx := B.exec
  have hb := B.bytes
  have hr := B.returns
  have hts0 := atoms_spec (ws := wyX10_doCross) B.pre
  have hts : ∀ w ∈ big, w.before _ s = true := fun w h => hts0 w (List.mem_cons_of_mem _ h)
  have hown : s.vm.findClass RX10 = some m.cls := findClass_of_methodNamed B.named
  have hlocks := B.notSynchronized
  have hl := lv_entry ([.ref (am 0), .int (nI tt), .int (nI uu)]) (n := 6) (Nat.le_of_ble_eq_true rfl)
  rw [lg_entry_eq]
  generalize (lg_sl ([.ref (am 0), .int (nI tt), .int (nI uu)]) ++ List.replicate (6 - (lg_sl ([.ref (am 0), .int (nI tt), .int (nI uu)])).length) Slot.unset).toArray = ls at hl ⊢
  have hl : lv_has ls 6 [(0, .ref (am 0)), (1, .int (nI tt)), (2, .int (nI uu))] := hl
  refine lv_iconst (v := 0) hx hb dX10_doCross_0 (by decide) ?_
  refine lv_istore_n (lv' := [(3, .int 0), (0, .ref (am 0)), (1, .int (nI tt)), (2, .int (nI uu))]) hx hb dX10_doCross_1 rfl hl (by decide) rfl (fun ls hl => ?_)
  refine lv_iconst (v := 0) hx hb dX10_doCross_2 (by decide) ?_
  refine lv_istore (lv' := [(4, .int 0), (3, .int 0), (0, .ref (am 0)), (1, .int (nI tt)), (2, .int (nI uu))]) hx hb dX10_doCross_3 hl (by decide) rfl (fun ls hl => ?_)
  have hl : lv_has ls 6 [(4, .int 0), (3, .int (zb (anyB (mXo t zf tt uu) 0 = true))), (0, .ref (am 0)), (1, .int (nI tt)), (2, .int (nI uu))] := hl
  refine w_loop (α := Nat) (fun a9 => a9 ≤ zf tt) (fun a9 => zf tt - a9) (fun a9 => [(0, .ref (am 0)), (1, .int (nI tt)), (2, .int (nI uu)), (3, .int (zb (anyB (mXo t zf tt uu) a9 = true))), (4, .int (nI a9))]) 5 6 ?_ 0 (Nat.zero_le _) (show lv_has ls 6 [(0, .ref (am 0)), (1, .int (nI tt)), (2, .int (nI uu)), (3, .int (zb (anyB (mXo t zf tt uu) 0 = true))), (4, .int (nI 0))] from lv_sub hl [2, 3, 4, 1, 0] rfl)
  intro a9 ls hI hl ih_5
  obtain ⟨av, rfl⟩ : ∃ z, z = a9 := ⟨a9, rfl⟩
  have hI : av ≤ zf tt := hI
  have hl : lv_has ls 6 [(0, .ref (am 0)), (1, .int (nI tt)), (2, .int (nI uu)), (3, .int (zb (anyB (mXo t zf tt uu) av = true))), (4, .int (nI av))] := hl
  refine lv_iload hx hb dX10_doCross_5 (lv_at hl 4 rfl) ?_
  refine lv_aload_n hx hb dX10_doCross_7 rfl (lv_at hl 0 rfl) ?_
  refine va_get (D := D) (ci := 10) (v := .ref (am 17)) (C := RX10) (T := TX10) (N := 41) hx hb hts hin10 hown hK.1 hP 0 rfl rfl 29 (by decide) (hts _ fl_X10_63) (fun _ h9 => h9) rfl dX10_doCross_8 ?_
  refine lv_iload_n hx hb dX10_doCross_11 rfl (lv_at hl 1 rfl) ?_
  refine z_iald hx hb hK.1 hP 17 0 rfl rfl tt rfl (show tt < 6 by omega) (by decide) dX10_doCross_12 ?_
  rw [(hzf tt htt).1]
  refine lv_icmp_ge (tgt := 89) hx hb dX10_doCross_13 (by decide) (fun c_1 => ?_) (fun c_1 => ?_)
  · skip
    have hge : zf tt ≤ av := zge (by have := hI; have := (hzf tt htt).2; omega) (by have := (hzf tt htt).2; omega) c_1
    have eza : zf tt = av := by have := hI; omega
    refine lv_iload_n hx hb dX10_doCross_89 rfl (lv_at hl 3 rfl) ?_
    exact ro_zret hx hb hr hlocks (nar_zb _) (by unfold mDc; rw [eza]) dX10_doCross_90
  · skip
    have hlt_a : av < zf tt := zlt (by have := hI; have := (hzf tt htt).2; omega) (by have := (hzf tt htt).2; omega) c_1
    refine lv_iconst (v := 0) hx hb dX10_doCross_16 (by decide) ?_
    refine lv_istore (lv' := [(5, .int 0), (0, .ref (am 0)), (1, .int (nI tt)), (2, .int (nI uu)), (3, .int (zb (anyB (mXo t zf tt uu) av = true))), (4, .int (nI av))]) hx hb dX10_doCross_17 hl (by decide) rfl (fun ls hl => ?_)
    have hl : lv_has ls 6 [(5, .int 0), (0, .ref (am 0)), (1, .int (nI tt)), (2, .int (nI uu)), (3, .int (zb ((anyB (mXo t zf tt uu) av || anyB (mX t tt uu av) 0) = true))), (4, .int (nI av))] := by rw [show (anyB (mXo t zf tt uu) av || anyB (mX t tt uu av) 0) = anyB (mXo t zf tt uu) av from Bool.or_false _]; exact lv_sub hl [0, 1, 2, 3, 4, 5] rfl
    refine w_loop (α := Nat) (fun a9 => a9 ≤ zf uu) (fun a9 => zf uu - a9) (fun a9 => [(0, .ref (am 0)), (1, .int (nI tt)), (2, .int (nI uu)), (3, .int (zb ((anyB (mXo t zf tt uu) av || anyB (mX t tt uu av) a9) = true))), (4, .int (nI av)), (5, .int (nI a9))]) 19 6 ?_ 0 (Nat.zero_le _) (show lv_has ls 6 [(0, .ref (am 0)), (1, .int (nI tt)), (2, .int (nI uu)), (3, .int (zb ((anyB (mXo t zf tt uu) av || anyB (mX t tt uu av) 0) = true))), (4, .int (nI av)), (5, .int (nI 0))] from lv_sub hl [1, 2, 3, 4, 5, 0] rfl)
    intro a9 ls hI hl ih_19
    obtain ⟨bv, rfl⟩ : ∃ z, z = a9 := ⟨a9, rfl⟩
    have hI : bv ≤ zf uu := hI
    have hl : lv_has ls 6 [(0, .ref (am 0)), (1, .int (nI tt)), (2, .int (nI uu)), (3, .int (zb ((anyB (mXo t zf tt uu) av || anyB (mX t tt uu av) bv) = true))), (4, .int (nI av)), (5, .int (nI bv))] := hl
    refine lv_iload hx hb dX10_doCross_19 (lv_at hl 5 rfl) ?_
    refine lv_aload_n hx hb dX10_doCross_21 rfl (lv_at hl 0 rfl) ?_
    refine va_get (D := D) (ci := 10) (v := .ref (am 17)) (C := RX10) (T := TX10) (N := 41) hx hb hts hin10 hown hK.1 hP 0 rfl rfl 29 (by decide) (hts _ fl_X10_63) (fun _ h9 => h9) rfl dX10_doCross_22 ?_
    refine lv_iload_n hx hb dX10_doCross_25 rfl (lv_at hl 2 rfl) ?_
    refine z_iald hx hb hK.1 hP 17 0 rfl rfl uu rfl (show uu < 6 by omega) (by decide) dX10_doCross_26 ?_
    rw [(hzf uu huu).1]
    refine lv_icmp_ge (tgt := 83) hx hb dX10_doCross_27 (by decide) (fun c_2 => ?_) (fun c_2 => ?_)
    · skip
      have hge : zf uu ≤ bv := zge (by have := hI; have := (hzf uu huu).2; omega) (by have := (hzf uu huu).2; omega) c_2
      have ezb : zf uu = bv := by have := hI; omega
      have hl : lv_has ls 6 [(0, .ref (am 0)), (1, .int (nI tt)), (2, .int (nI uu)), (3, .int (zb (anyB (mXo t zf tt uu) (av + 1) = true))), (4, .int (nI av)), (5, .int (nI bv))] := by rw [show anyB (mXo t zf tt uu) (av + 1) = (anyB (mXo t zf tt uu) av || anyB (mX t tt uu av) bv) from by rw [anyB, mXo, ezb]]; exact hl
      refine lv_iinc (v := (nI (av + 1))) (lv' := [(4, .int (nI (av + 1))), (0, .ref (am 0)), (1, .int (nI tt)), (2, .int (nI uu)), (3, .int (zb (anyB (mXo t zf tt uu) (av + 1) = true))), (5, .int (nI bv))]) hx hb dX10_doCross_83 hl (k := 4) rfl (nI_add av 1) (by decide) rfl (fun ls hl => ?_)
      refine lv_goto (tgt := 5) hx hb dX10_doCross_86 (by decide) ?_
      exact ih_5 (av + 1) ls (show (av + 1) ≤ zf tt from hlt_a) (show zf tt - (av + 1) < zf tt - av from by omega) (show lv_has ls 6 [(0, .ref (am 0)), (1, .int (nI tt)), (2, .int (nI uu)), (3, .int (zb (anyB (mXo t zf tt uu) (av + 1) = true))), (4, .int (nI (av + 1)))] from lv_sub hl [1, 2, 3, 4, 0] rfl)
    · skip
      have hlt : bv < zf uu := zlt (by have := hI; have := (hzf uu huu).2; omega) (by have := (hzf uu huu).2; omega) c_2
      refine w_join (α := Int32) (fun a9 => a9 = (zb ((anyB (mXo t zf tt uu) av || anyB (mX t tt uu av) (bv + 1)) = true))) (fun a9 => [(0, .ref (am 0)), (1, .int (nI tt)), (2, .int (nI uu)), (3, .int (zb ((anyB (mXo t zf tt uu) av || anyB (mX t tt uu av) bv) = true))), (4, .int (nI av)), (5, .int (nI bv))]) (fun a9 => [.int a9]) 76 6 (fun hJ_76 => ?_) ?_
      · skip
        refine lv_iload_n hx hb dX10_doCross_30 rfl (lv_at hl 3 rfl) ?_
        refine lv_if_ne (tgt := 71) hx hb dX10_doCross_31 (by decide) (fun c_3 => ?_) (fun c_3 => ?_)
        · skip
          have c_3 := zb_ne0 c_3
          refine lv_iconst (v := 1) hx hb dX10_doCross_71 (by decide) ?_
          refine lv_goto (tgt := 76) hx hb dX10_doCross_72 (by decide) ?_
          exact hJ_76 1 ls (show 1 = (zb ((anyB (mXo t zf tt uu) av || anyB (mX t tt uu av) (bv + 1)) = true)) from (zb_t (by rw [anyB, ← Bool.or_assoc, Bool.or_eq_true]; exact Or.inl c_3)).symm) (show lv_has ls 6 [(0, .ref (am 0)), (1, .int (nI tt)), (2, .int (nI uu)), (3, .int (zb ((anyB (mXo t zf tt uu) av || anyB (mX t tt uu av) bv) = true))), (4, .int (nI av)), (5, .int (nI bv))] from lv_sub hl [0, 1, 2, 3, 4, 5] rfl)
        · skip
          have c_3 := zb_eq0 c_3
          refine lv_aload_n hx hb dX10_doCross_34 rfl (lv_at hl 0 rfl) ?_
          refine va_get (D := D) (ci := 10) (v := .ref (am 18)) (C := RX10) (T := TX10) (N := 41) hx hb hts hin10 hown hK.1 hP 0 rfl rfl 30 (by decide) (hts _ fl_X10_66) (fun _ h9 => h9) rfl dX10_doCross_35 ?_
          refine lv_bipush (v := 6) hx hb dX10_doCross_38 (by decide) ?_
          refine lv_iload_n hx hb dX10_doCross_40 rfl (lv_at hl 1 rfl) ?_
          refine lv_imul hx hb dX10_doCross_41 ?_
          rw [show (6 : Int32) * nI tt = nI (6 * tt) from pk_mul 6 tt]
          refine lv_iload hx hb dX10_doCross_42 (lv_at hl 4 rfl) ?_
          refine lv_iadd hx hb dX10_doCross_44 ?_
          rw [nI_add]
          refine z_iald hx hb hK.1 hP 18 0 rfl rfl (6 * tt + av) rfl (show 6 * tt + av < 36 by have := (hzf tt htt).2; omega) (by decide) dX10_doCross_45 ?_
          refine lv_aload_n hx hb dX10_doCross_46 rfl (lv_at hl 0 rfl) ?_
          refine va_get (D := D) (ci := 10) (v := .ref (am 18)) (C := RX10) (T := TX10) (N := 41) hx hb hts hin10 hown hK.1 hP 0 rfl rfl 30 (by decide) (hts _ fl_X10_66) (fun _ h9 => h9) rfl dX10_doCross_47 ?_
          refine lv_bipush (v := 6) hx hb dX10_doCross_50 (by decide) ?_
          refine lv_iload_n hx hb dX10_doCross_52 rfl (lv_at hl 2 rfl) ?_
          refine lv_imul hx hb dX10_doCross_53 ?_
          rw [show (6 : Int32) * nI uu = nI (6 * uu) from pk_mul 6 uu]
          refine lv_iload hx hb dX10_doCross_54 (lv_at hl 5 rfl) ?_
          refine lv_iadd hx hb dX10_doCross_56 ?_
          rw [nI_add]
          refine z_iald hx hb hK.1 hP 18 0 rfl rfl (6 * uu + bv) rfl (show 6 * uu + bv < 36 by have := (hzf uu huu).2; omega) (by decide) dX10_doCross_57 ?_
          refine lv_icmp_ne (tgt := 75) hx hb dX10_doCross_58 (by decide) (fun c_4 => ?_) (fun c_4 => ?_)
          · skip
            refine lv_iconst (v := 0) hx hb dX10_doCross_75 (by decide) ?_
            exact hJ_76 0 ls (show 0 = (zb ((anyB (mXo t zf tt uu) av || anyB (mX t tt uu av) (bv + 1)) = true)) from (zb_f (by rw [anyB, ← Bool.or_assoc, Bool.or_eq_true]; exact fun z9 => z9.elim c_3 (fun y9 => by unfold mX at y9; rw [decide_eq_true_eq] at y9; exact c_4 y9.1))).symm) (show lv_has ls 6 [(0, .ref (am 0)), (1, .int (nI tt)), (2, .int (nI uu)), (3, .int (zb ((anyB (mXo t zf tt uu) av || anyB (mX t tt uu av) bv) = true))), (4, .int (nI av)), (5, .int (nI bv))] from lv_sub hl [0, 1, 2, 3, 4, 5] rfl)
          · skip
            refine lv_iload hx hb dX10_doCross_61 (lv_at hl 4 rfl) ?_
            refine lv_if_gt (tgt := 71) hx hb dX10_doCross_63 (by decide) (fun c_5 => ?_) (fun c_5 => ?_)
            · skip
              refine lv_iconst (v := 1) hx hb dX10_doCross_71 (by decide) ?_
              refine lv_goto (tgt := 76) hx hb dX10_doCross_72 (by decide) ?_
              exact hJ_76 1 ls (show 1 = (zb ((anyB (mXo t zf tt uu) av || anyB (mX t tt uu av) (bv + 1)) = true)) from (zb_t (by rw [anyB, ← Bool.or_assoc, Bool.or_eq_true]; exact Or.inr (by unfold mX; exact decide_eq_true ⟨c_4, Or.inl c_5⟩))).symm) (show lv_has ls 6 [(0, .ref (am 0)), (1, .int (nI tt)), (2, .int (nI uu)), (3, .int (zb ((anyB (mXo t zf tt uu) av || anyB (mX t tt uu av) bv) = true))), (4, .int (nI av)), (5, .int (nI bv))] from lv_sub hl [0, 1, 2, 3, 4, 5] rfl)
            · skip
              refine lv_iload hx hb dX10_doCross_66 (lv_at hl 5 rfl) ?_
              refine lv_if_le (tgt := 75) hx hb dX10_doCross_68 (by decide) (fun c_6 => ?_) (fun c_6 => ?_)
              · skip
                refine lv_iconst (v := 0) hx hb dX10_doCross_75 (by decide) ?_
                exact hJ_76 0 ls (show 0 = (zb ((anyB (mXo t zf tt uu) av || anyB (mX t tt uu av) (bv + 1)) = true)) from (zb_f (by rw [anyB, ← Bool.or_assoc, Bool.or_eq_true]; exact fun z9 => z9.elim c_3 (fun y9 => by unfold mX at y9; rw [decide_eq_true_eq] at y9; exact y9.2.elim c_5 (fun w9 => absurd w9 (Int32.not_lt.mpr c_6))))).symm) (show lv_has ls 6 [(0, .ref (am 0)), (1, .int (nI tt)), (2, .int (nI uu)), (3, .int (zb ((anyB (mXo t zf tt uu) av || anyB (mX t tt uu av) bv) = true))), (4, .int (nI av)), (5, .int (nI bv))] from lv_sub hl [0, 1, 2, 3, 4, 5] rfl)
              · skip
                refine lv_iconst (v := 1) hx hb dX10_doCross_71 (by decide) ?_
                refine lv_goto (tgt := 76) hx hb dX10_doCross_72 (by decide) ?_
                exact hJ_76 1 ls (show 1 = (zb ((anyB (mXo t zf tt uu) av || anyB (mX t tt uu av) (bv + 1)) = true)) from (zb_t (by rw [anyB, ← Bool.or_assoc, Bool.or_eq_true]; exact Or.inr (by unfold mX; exact decide_eq_true ⟨c_4, Or.inr (Int32.not_le.mp c_6)⟩))).symm) (show lv_has ls 6 [(0, .ref (am 0)), (1, .int (nI tt)), (2, .int (nI uu)), (3, .int (zb ((anyB (mXo t zf tt uu) av || anyB (mX t tt uu av) bv) = true))), (4, .int (nI av)), (5, .int (nI bv))] from lv_sub hl [0, 1, 2, 3, 4, 5] rfl)
      · skip
        intro a9 ls hI hl
        obtain ⟨u9, rfl⟩ : ∃ z, z = a9 := ⟨a9, rfl⟩
        have hI : u9 = (zb ((anyB (mXo t zf tt uu) av || anyB (mX t tt uu av) (bv + 1)) = true)) := hI
        subst hI
        have hl : lv_has ls 6 [(0, .ref (am 0)), (1, .int (nI tt)), (2, .int (nI uu)), (3, .int (zb ((anyB (mXo t zf tt uu) av || anyB (mX t tt uu av) bv) = true))), (4, .int (nI av)), (5, .int (nI bv))] := hl
        refine lv_istore_n (lv' := [(3, .int (zb ((anyB (mXo t zf tt uu) av || anyB (mX t tt uu av) (bv + 1)) = true))), (0, .ref (am 0)), (1, .int (nI tt)), (2, .int (nI uu)), (4, .int (nI av)), (5, .int (nI bv))]) hx hb dX10_doCross_76 rfl hl (by decide) rfl (fun ls hl => ?_)
        refine lv_iinc (v := (nI (bv + 1))) (lv' := [(5, .int (nI (bv + 1))), (3, .int (zb ((anyB (mXo t zf tt uu) av || anyB (mX t tt uu av) (bv + 1)) = true))), (0, .ref (am 0)), (1, .int (nI tt)), (2, .int (nI uu)), (4, .int (nI av))]) hx hb dX10_doCross_77 hl (k := 5) rfl (nI_add bv 1) (by decide) rfl (fun ls hl => ?_)
        refine lv_goto (tgt := 19) hx hb dX10_doCross_80 (by decide) ?_
        exact ih_19 (bv + 1) ls (show (bv + 1) ≤ zf uu from hlt) (show zf uu - (bv + 1) < zf uu - bv from by omega) (show lv_has ls 6 [(0, .ref (am 0)), (1, .int (nI tt)), (2, .int (nI uu)), (3, .int (zb ((anyB (mXo t zf tt uu) av || anyB (mX t tt uu av) (bv + 1)) = true))), (4, .int (nI av)), (5, .int (nI (bv + 1)))] from lv_sub hl [2, 3, 4, 1, 5, 0] rfl)

theorem mJo_lt {N : TN} {x y : Int32} : ∀ i, mJo N x y i = -1 ∨ ∃ j : Nat, j < i ∧ mJo N x y i = nI j
  | 0 => Or.inl rfl
  | i + 1 => by
    rw [mJo]
    split
    · exact Or.inr ⟨i, by omega, rfl⟩
    · rcases mJo_lt (N := N) (x := x) (y := y) i with h | ⟨j, h1, h2⟩
      · exact Or.inl h
      · exact Or.inr ⟨j, by omega, h2⟩
theorem mJo_cm {N : TN} {x y : Int32} : mCm N (mJo N x y (N_n N)) := mJo_lt _
def mJk (N : TN) (t : TT) (tt k9 : Nat) : Int32 := mJo N (t.2.1 (6 * tt + k9 - 1)) (t.2.1 (6 * tt + k9)) (N_n N)
def mB0 (t : TT) (ro : TR) (tt : Nat) : Int32 := if hasB ro.2.1 (t.2.1 (6 * tt)) ro.1 = true then 0 else 1
def mB1 (t : TT) (ro : TR) (tt : Nat) : Nat → Int32
  | 0 => mB0 t ro tt
  | i + 1 => if i = 0 then mB0 t ro tt else mB1 t ro tt i ||| (if hasB ro.2.1 (t.2.1 (6 * tt + i)) ro.1 = true then 2 else 0)
def mB2 (N : TN) (t : TT) (tt : Nat) : Nat → Int32
  | 0 => 0
  | i + 1 => if i = 0 then 0 else mB2 N t tt i + N_l N (mJk N t tt i).toNatClampNeg
def mB3 (N : TN) (t : TT) (zf : Nat → Nat) (ro : TR) (tt : Nat) : Int32 := mB1 t ro tt (zf tt) ||| (if t.2.2.2.2 < mB2 N t tt (zf tt) then 4 else 0)
def mB4 (N : TN) (t : TT) (zf : Nat → Nat) (ro : TR) (tt : Nat) : Nat → Int32
  | 0 => mB3 N t zf ro tt
  | u + 1 => mB4 N t zf ro tt u ||| (if ¬ nI u = nI tt ∧ ¬ t.2.2.2.1 u = 0 ∧ mDc t zf tt u = true then 8 else 0)
theorem mB1_end {t : TT} {ro : TR} {tt i z9 : Nat} (h1 : 1 ≤ i) (h : i ≤ z9 ∨ i = 1) (hge : z9 ≤ i) : mB1 t ro tt i = mB1 t ro tt z9 := by
  by_cases h9 : i = z9
  · rw [h9]
  · have h8 : i = 1 ∧ z9 = 0 := by omega
    rw [h8.1, h8.2]; rfl
theorem mB2_end {N : TN} {t : TT} {tt i z9 : Nat} (h1 : 1 ≤ i) (h : i ≤ z9 ∨ i = 1) (hge : z9 ≤ i) : mB2 N t tt i = mB2 N t tt z9 := by
  by_cases h9 : i = z9
  · rw [h9]
  · have h8 : i = 1 ∧ z9 = 0 := by omega
    rw [h8.1, h8.2]; rfl
def mXbreaks (N : TN) (t : TT) (zf : Nat → Nat) (ro : TR) (x : Int32) : Int32 := if 0 ≤ x ∧ x ≤ nI t.1 - 1 then if t.2.2.2.1 x.toNatClampNeg = 0 then 0 else mB4 N t zf ro x.toNatClampNeg t.1 else -2
set_option maxHeartbeats 4000000 in
set_option maxRecDepth 100000 in
theorem c_X10_breaks (l : Launch) (D : va_G) (cI cZ : ClassId) (am : Nat → Nat) (N : TN) (hN16 : N_n N ≤ 16) (S : TS) (hS24 : S_n S ≤ 24) (q : TQ) (o : TO) (ho8 : o.1 ≤ 8) (ro : TR) (hr10 : ro.1 ≤ 10) (t : TT) (ht6 : t.1 ≤ 6) (fo : TF) (hf5 : fo.1 ≤ 5) (k : TC) (hk8 : k.2.1 ≤ 8) (z : TZ) (zf : Nat → Nat) (hzf : ∀ i, i < t.1 → t.2.2.1 i = nI (zf i) ∧ zf i ≤ 6) (hz1 : ∀ i, i < t.1 → 1 ≤ zf i) (hjn : ∀ tt, tt < t.1 → ∀ k9, 1 ≤ k9 → k9 < zf tt → ¬ mJk N t tt k9 = -1) (x : Int32) : RO l D cI cZ yX10_breaks wyX10_breaks ({ frames := 3, cells := 0, slots := 0, locals := 68 } : Room) [.ref (am 0), .int x] (wM am cI cZ N S q o ro t fo k z) (mXbreaks N t zf ro x) := by
  refine Met.ofW (cc := cX10_breaks) (maxL := 5) (ret := (some .int)) (by decide) rfl ?_
  intro p e s m args below meth c s₁ B hml hv
  obtain ⟨rfl, hK, hP⟩ := hv
  have hx := B.exec
  have hb := B.bytes
  have hr := B.returns
  have hts0 := atoms_spec (ws := wyX10_breaks) B.pre
  have hts : ∀ w ∈ big, w.before _ s = true := fun w h => hts0 w (List.mem_cons_of_mem _ h)
  have hown : s.vm.findClass RX10 = some m.cls := findClass_of_methodNamed B.named
  have hlocks := B.notSynchronized
  have hl := lv_entry ([.ref (am 0), .int x]) (n := 5) (Nat.le_of_ble_eq_true rfl)
  rw [lg_entry_eq]
  generalize (lg_sl ([.ref (am 0), .int x]) ++ List.replicate (5 - (lg_sl ([.ref (am 0), .int x])).length) Slot.unset).toArray = ls at hl ⊢
  have hl : lv_has ls 5 [(0, .ref (am 0)), (1, .int x)] := hl
  refine lv_iload_n hx hb dX10_breaks_0 rfl (lv_at hl 1 rfl) ?_
  refine lv_iconst (v := 0) hx hb dX10_breaks_1 (by decide) ?_
  refine lv_aload_n hx hb dX10_breaks_2 rfl (lv_at hl 0 rfl) ?_
  refine va_get (D := D) (ci := 10) (v := .int (nI t.1)) (C := RX10) (T := TX10) (N := 41) hx hb hts hin10 hown hK.1 hP 0 rfl rfl 28 (by decide) (hts _ fl_X10_171) (fun _ h9 => h9) rfl dX10_breaks_3 ?_
  refine lv_iconst (v := 1) hx hb dX10_breaks_6 (by decide) ?_
  refine lv_isub hx hb dX10_breaks_7 ?_
  refine ro_S (As := [.int x, .int 0, .int ((nI t.1) - 1)]) (rest := []) ⟨hx, hb, hml, hown, hts⟩ (c_X10_in l D cI cZ  x 0 ((nI t.1) - 1)) (cw_X10_90 hts rfl rfl ⟨Nat.le_of_ble_eq_true rfl, Nat.le_of_ble_eq_true rfl⟩) hK P_nil rfl hl.1 rfl (Nat.le_of_ble_eq_true rfl) dX10_breaks_8 ⟨Nat.zero_le _, Nat.zero_le _⟩ ?_
  refine lv_if_ne (tgt := 17) hx hb dX10_breaks_11 (by decide) (fun c_1 => ?_) (fun c_1 => ?_)
  · skip
    have c_1 := zb_ne0 c_1
    obtain ⟨j, hj, ej⟩ := ix_of (n := t.1) c_1 (by omega)
    have hl : lv_has ls 5 [(0, .ref (am 0)), (1, .int (nI j))] := by rw [← ej]; exact hl
    rw [ej] at c_1
    refine lv_aload_n hx hb dX10_breaks_17 rfl (lv_at hl 0 rfl) ?_
    refine va_get (D := D) (ci := 10) (v := .ref (am 19)) (C := RX10) (T := TX10) (N := 41) hx hb hts hin10 hown hK.1 hP 0 rfl rfl 31 (by decide) (hts _ fl_X10_69) (fun _ h9 => h9) rfl dX10_breaks_18 ?_
    refine lv_iload_n hx hb dX10_breaks_21 rfl (lv_at hl 1 rfl) ?_
    refine z_zald hx hb hK.1 hP 19 1 rfl rfl j rfl (show j < 6 by omega) (by decide) dX10_breaks_22 ?_
    refine lv_if_ne (tgt := 28) hx hb dX10_breaks_23 (by decide) (fun c_2 => ?_) (fun c_2 => ?_)
    · skip
      refine lv_aload_n hx hb dX10_breaks_28 rfl (lv_at hl 0 rfl) ?_
      refine w_join (α := Int32) (fun a9 => a9 = (mB0 t ro j)) (fun a9 => [(0, .ref (am 0)), (1, .int (nI j))]) (fun a9 => [.int a9]) 49 5 (fun hJ_49 => ?_) ?_
      · skip
        refine lv_aload_n hx hb dX10_breaks_29 rfl (lv_at hl 0 rfl) ?_
        refine va_get (D := D) (ci := 10) (v := .ref (am 18)) (C := RX10) (T := TX10) (N := 41) hx hb hts hin10 hown hK.1 hP 0 rfl rfl 30 (by decide) (hts _ fl_X10_66) (fun _ h9 => h9) rfl dX10_breaks_30 ?_
        refine lv_bipush (v := 6) hx hb dX10_breaks_33 (by decide) ?_
        refine lv_iload_n hx hb dX10_breaks_35 rfl (lv_at hl 1 rfl) ?_
        refine lv_imul hx hb dX10_breaks_36 ?_
        rw [show (6 : Int32) * nI j = nI (6 * j) from pk_mul 6 j]
        refine z_iald hx hb hK.1 hP 18 0 rfl rfl (6 * j) rfl (show 6 * j < 36 by omega) (by decide) dX10_breaks_37 ?_
        refine ro_V (As := [.int (t.2.1 (6 * j))]) (rest := []) ⟨hx, hb, hml, hown, hts⟩ (c_X10_isOnRoute l D cI cZ am N hN16 S hS24 q o ho8 ro hr10 t ht6 fo hf5 k hk8 z (t.2.1 (6 * j))) (cw_X10_174 hts rfl rfl ⟨Nat.le_of_ble_eq_true rfl, Nat.le_of_ble_eq_true rfl⟩) hK hP (ci := 10) rfl rfl rfl hl.1 rfl (Nat.le_of_ble_eq_true rfl) dX10_breaks_38 ⟨Nat.zero_le _, Nat.zero_le _⟩ ?_
        refine lv_if_eq (tgt := 48) hx hb dX10_breaks_41 (by decide) (fun c_3 => ?_) (fun c_3 => ?_)
        · skip
          have c_3 := zb_eq0 c_3
          refine lv_iconst (v := 1) hx hb dX10_breaks_48 (by decide) ?_
          exact hJ_49 1 ls (show 1 = (mB0 t ro j) from by first | exact (if_pos c_3).symm | exact (if_neg c_3).symm | exact (if_pos (Int32.not_le.mp c_3)).symm | exact (if_neg (Int32.not_lt.mpr c_3)).symm) (show lv_has ls 5 [(0, .ref (am 0)), (1, .int (nI j))] from lv_sub hl [0, 1] rfl)
        · skip
          have c_3 := zb_ne0 c_3
          refine lv_iconst (v := 0) hx hb dX10_breaks_44 (by decide) ?_
          refine lv_goto (tgt := 49) hx hb dX10_breaks_45 (by decide) ?_
          exact hJ_49 0 ls (show 0 = (mB0 t ro j) from by first | exact (if_pos c_3).symm | exact (if_neg c_3).symm | exact (if_pos (Int32.not_le.mp c_3)).symm | exact (if_neg (Int32.not_lt.mpr c_3)).symm) (show lv_has ls 5 [(0, .ref (am 0)), (1, .int (nI j))] from lv_sub hl [0, 1] rfl)
      · skip
        intro a9 ls hI hl
        obtain ⟨y9, rfl⟩ : ∃ z, z = a9 := ⟨a9, rfl⟩
        have hI : y9 = (mB0 t ro j) := hI
        subst hI
        have hl : lv_has ls 5 [(0, .ref (am 0)), (1, .int (nI j))] := hl
        refine lv_istore_n (lv' := [(2, .int (mB0 t ro j)), (0, .ref (am 0)), (1, .int (nI j))]) hx hb dX10_breaks_49 rfl hl (by decide) rfl (fun ls hl => ?_)
        refine lv_iconst (v := 0) hx hb dX10_breaks_50 (by decide) ?_
        refine lv_istore_n (lv' := [(3, .int 0), (2, .int (mB0 t ro j)), (0, .ref (am 0)), (1, .int (nI j))]) hx hb dX10_breaks_51 rfl hl (by decide) rfl (fun ls hl => ?_)
        refine lv_iconst (v := 1) hx hb dX10_breaks_52 (by decide) ?_
        refine lv_istore (lv' := [(4, .int 1), (3, .int 0), (2, .int (mB0 t ro j)), (0, .ref (am 0)), (1, .int (nI j))]) hx hb dX10_breaks_53 hl (by decide) rfl (fun ls hl => ?_)
        have hl : lv_has ls 5 [(4, .int 1), (3, .int (mB2 N t j 1)), (2, .int (mB1 t ro j 1)), (0, .ref (am 0)), (1, .int (nI j))] := hl
        refine w_loop (α := Nat) (fun a9 => 1 ≤ a9 ∧ (a9 ≤ zf j ∨ a9 = 1)) (fun a9 => zf j + 1 - a9) (fun a9 => [(0, .ref (am 0)), (1, .int (nI j)), (2, .int (mB1 t ro j a9)), (3, .int (mB2 N t j a9)), (4, .int (nI a9))]) 55 5 ?_ 1 (⟨by omega, Or.inr rfl⟩) (show lv_has ls 5 [(0, .ref (am 0)), (1, .int (nI j)), (2, .int (mB1 t ro j 1)), (3, .int (mB2 N t j 1)), (4, .int (nI 1))] from lv_sub hl [3, 4, 2, 1, 0] rfl)
        intro a9 ls hI hl ih_55
        obtain ⟨i, rfl⟩ : ∃ z, z = a9 := ⟨a9, rfl⟩
        have hI : 1 ≤ i ∧ (i ≤ zf j ∨ i = 1) := hI
        have hl : lv_has ls 5 [(0, .ref (am 0)), (1, .int (nI j)), (2, .int (mB1 t ro j i)), (3, .int (mB2 N t j i)), (4, .int (nI i))] := hl
        refine lv_iload hx hb dX10_breaks_55 (lv_at hl 4 rfl) ?_
        refine lv_aload_n hx hb dX10_breaks_57 rfl (lv_at hl 0 rfl) ?_
        refine va_get (D := D) (ci := 10) (v := .ref (am 17)) (C := RX10) (T := TX10) (N := 41) hx hb hts hin10 hown hK.1 hP 0 rfl rfl 29 (by decide) (hts _ fl_X10_63) (fun _ h9 => h9) rfl dX10_breaks_58 ?_
        refine lv_iload_n hx hb dX10_breaks_61 rfl (lv_at hl 1 rfl) ?_
        refine z_iald hx hb hK.1 hP 17 0 rfl rfl j rfl (show j < 6 by omega) (by decide) dX10_breaks_62 ?_
        rw [(hzf j hj).1]
        refine lv_icmp_ge (tgt := 137) hx hb dX10_breaks_63 (by decide) (fun c_4 => ?_) (fun c_4 => ?_)
        · skip
          have hge : zf j ≤ i := zge (by have := hI.2; have := (hzf j hj).2; omega) (by have := (hzf j hj).2; omega) c_4
          have hI8 := hI
          have hl : lv_has ls 5 [(0, .ref (am 0)), (1, .int (nI j)), (2, .int (mB1 t ro j (zf j))), (3, .int (mB2 N t j (zf j))), (4, .int (nI i))] := by rw [← mB1_end hI8.1 hI8.2 hge, ← mB2_end hI8.1 hI8.2 hge]; exact hl
          refine lv_iload_n hx hb dX10_breaks_137 rfl (lv_at hl 2 rfl) ?_
          refine w_join (α := Int32) (fun a9 => a9 = (if t.2.2.2.2 < (mB2 N t j (zf j)) then 4 else 0)) (fun a9 => [(0, .ref (am 0)), (1, .int (nI j)), (2, .int (mB1 t ro j (zf j))), (3, .int (mB2 N t j (zf j))), (4, .int (nI i))]) (fun a9 => [.int a9, .int (mB1 t ro j (zf j))]) 151 5 (fun hJ_151 => ?_) ?_
          · skip
            refine lv_iload_n hx hb dX10_breaks_138 rfl (lv_at hl 3 rfl) ?_
            refine lv_aload_n hx hb dX10_breaks_139 rfl (lv_at hl 0 rfl) ?_
            refine va_get (D := D) (ci := 10) (v := .int t.2.2.2.2) (C := RX10) (T := TX10) (N := 41) hx hb hts hin10 hown hK.1 hP 0 rfl rfl 17 (by decide) (hts _ fl_X10_44) (fun _ h9 => h9) rfl dX10_breaks_140 ?_
            refine lv_icmp_le (tgt := 150) hx hb dX10_breaks_143 (by decide) (fun c_5 => ?_) (fun c_5 => ?_)
            · skip
              refine lv_iconst (v := 0) hx hb dX10_breaks_150 (by decide) ?_
              exact hJ_151 0 ls (show 0 = (if t.2.2.2.2 < (mB2 N t j (zf j)) then 4 else 0) from by first | exact (if_pos c_5).symm | exact (if_neg c_5).symm | exact (if_pos (Int32.not_le.mp c_5)).symm | exact (if_neg (Int32.not_lt.mpr c_5)).symm) (show lv_has ls 5 [(0, .ref (am 0)), (1, .int (nI j)), (2, .int (mB1 t ro j (zf j))), (3, .int (mB2 N t j (zf j))), (4, .int (nI i))] from lv_sub hl [0, 1, 2, 3, 4] rfl)
            · skip
              refine lv_iconst (v := 4) hx hb dX10_breaks_146 (by decide) ?_
              refine lv_goto (tgt := 151) hx hb dX10_breaks_147 (by decide) ?_
              exact hJ_151 4 ls (show 4 = (if t.2.2.2.2 < (mB2 N t j (zf j)) then 4 else 0) from by first | exact (if_pos c_5).symm | exact (if_neg c_5).symm | exact (if_pos (Int32.not_le.mp c_5)).symm | exact (if_neg (Int32.not_lt.mpr c_5)).symm) (show lv_has ls 5 [(0, .ref (am 0)), (1, .int (nI j)), (2, .int (mB1 t ro j (zf j))), (3, .int (mB2 N t j (zf j))), (4, .int (nI i))] from lv_sub hl [0, 1, 2, 3, 4] rfl)
          · skip
            intro a9 ls hI hl
            obtain ⟨y9, rfl⟩ : ∃ z, z = a9 := ⟨a9, rfl⟩
            have hI : y9 = (if t.2.2.2.2 < (mB2 N t j (zf j)) then 4 else 0) := hI
            subst hI
            have hl : lv_has ls 5 [(0, .ref (am 0)), (1, .int (nI j)), (2, .int (mB1 t ro j (zf j))), (3, .int (mB2 N t j (zf j))), (4, .int (nI i))] := hl
            refine lv_ior hx hb dX10_breaks_151 ?_
            refine lv_istore_n (lv' := [(2, .int ((mB1 t ro j (zf j)) ||| (if t.2.2.2.2 < (mB2 N t j (zf j)) then 4 else 0))), (0, .ref (am 0)), (1, .int (nI j)), (3, .int (mB2 N t j (zf j))), (4, .int (nI i))]) hx hb dX10_breaks_152 rfl hl (by decide) rfl (fun ls hl => ?_)
            have hl : lv_has ls 5 [(2, .int (mB4 N t zf ro j 0)), (0, .ref (am 0)), (1, .int (nI j)), (3, .int (mB2 N t j (zf j))), (4, .int (nI i))] := hl
            refine lv_iconst (v := 0) hx hb dX10_breaks_153 (by decide) ?_
            refine lv_istore (lv' := [(4, .int 0), (2, .int (mB4 N t zf ro j 0)), (0, .ref (am 0)), (1, .int (nI j)), (3, .int (mB2 N t j (zf j)))]) hx hb dX10_breaks_154 hl (by decide) rfl (fun ls hl => ?_)
            refine w_loop (α := Nat) (fun a9 => a9 ≤ t.1) (fun a9 => t.1 - a9) (fun a9 => [(0, .ref (am 0)), (1, .int (nI j)), (2, .int (mB4 N t zf ro j a9)), (4, .int (nI a9))]) 156 5 ?_ 0 (Nat.zero_le _) (show lv_has ls 5 [(0, .ref (am 0)), (1, .int (nI j)), (2, .int (mB4 N t zf ro j 0)), (4, .int (nI 0))] from lv_sub hl [2, 3, 1, 0] rfl)
            intro a9 ls hI hl ih_156
            obtain ⟨u, rfl⟩ : ∃ z, z = a9 := ⟨a9, rfl⟩
            have hI : u ≤ t.1 := hI
            have hl : lv_has ls 5 [(0, .ref (am 0)), (1, .int (nI j)), (2, .int (mB4 N t zf ro j u)), (4, .int (nI u))] := hl
            refine lv_iload hx hb dX10_breaks_156 (lv_at hl 3 rfl) ?_
            refine lv_aload_n hx hb dX10_breaks_158 rfl (lv_at hl 0 rfl) ?_
            refine va_get (D := D) (ci := 10) (v := .int (nI t.1)) (C := RX10) (T := TX10) (N := 41) hx hb hts hin10 hown hK.1 hP 0 rfl rfl 28 (by decide) (hts _ fl_X10_171) (fun _ h9 => h9) rfl dX10_breaks_159 ?_
            refine lv_icmp_ge (tgt := 206) hx hb dX10_breaks_162 (by decide) (fun c_6 => ?_) (fun c_6 => ?_)
            · skip
              have hge : t.1 ≤ u := zge (by have := hI; omega) (by omega) c_6
              have eu : t.1 = u := by have := hI; omega
              refine lv_iload_n hx hb dX10_breaks_206 rfl (lv_at hl 2 rfl) ?_
              exact ro_iret hx hb hr hlocks (by show ((mB4 N t zf ro j u) : Int32) = mXbreaks N t zf ro x; unfold mXbreaks; rw [ej, nI_cl (by omega)]; rw [eu]; rw [← eu, if_pos c_1, if_neg c_2, eu]) dX10_breaks_207
            · skip
              have hlt : u < t.1 := zlt (by have := hI; omega) (by omega) c_6
              refine lv_iload_n hx hb dX10_breaks_165 rfl (lv_at hl 2 rfl) ?_
              refine lv_iload hx hb dX10_breaks_166 (lv_at hl 3 rfl) ?_
              refine lv_iload_n hx hb dX10_breaks_168 rfl (lv_at hl 1 rfl) ?_
              refine lv_icmp_eq (tgt := 197) hx hb dX10_breaks_169 (by decide) (fun c_7 => ?_) (fun c_7 => ?_)
              · skip
                refine lv_iconst (v := 0) hx hb dX10_breaks_197 (by decide) ?_
                refine lv_ior hx hb dX10_breaks_198 ?_
                refine lv_istore_n (lv' := [(2, .int ((mB4 N t zf ro j u) ||| 0)), (0, .ref (am 0)), (1, .int (nI j)), (4, .int (nI u))]) hx hb dX10_breaks_199 rfl hl (by decide) rfl (fun ls hl => ?_)
                have hl : lv_has ls 5 [(2, .int (mB4 N t zf ro j (u + 1))), (0, .ref (am 0)), (1, .int (nI j)), (4, .int (nI u))] := by rw [show (mB4 N t zf ro j (u + 1)) = ((mB4 N t zf ro j u) ||| 0) from by rw [mB4, if_neg (fun z9 => z9.1 c_7)]]; exact hl
                refine lv_iinc (v := (nI (u + 1))) (lv' := [(4, .int (nI (u + 1))), (2, .int (mB4 N t zf ro j (u + 1))), (0, .ref (am 0)), (1, .int (nI j))]) hx hb dX10_breaks_200 hl (k := 3) rfl (nI_add u 1) (by decide) rfl (fun ls hl => ?_)
                refine lv_goto (tgt := 156) hx hb dX10_breaks_203 (by decide) ?_
                exact ih_156 (u + 1) ls (show (u + 1) ≤ t.1 from hlt) (show t.1 - (u + 1) < t.1 - u from by omega) (show lv_has ls 5 [(0, .ref (am 0)), (1, .int (nI j)), (2, .int (mB4 N t zf ro j (u + 1))), (4, .int (nI (u + 1)))] from lv_sub hl [2, 3, 1, 0] rfl)
              · skip
                refine lv_aload_n hx hb dX10_breaks_172 rfl (lv_at hl 0 rfl) ?_
                refine va_get (D := D) (ci := 10) (v := .ref (am 19)) (C := RX10) (T := TX10) (N := 41) hx hb hts hin10 hown hK.1 hP 0 rfl rfl 31 (by decide) (hts _ fl_X10_69) (fun _ h9 => h9) rfl dX10_breaks_173 ?_
                refine lv_iload hx hb dX10_breaks_176 (lv_at hl 3 rfl) ?_
                refine z_zald hx hb hK.1 hP 19 1 rfl rfl u rfl (show u < 6 by omega) (by decide) dX10_breaks_178 ?_
                refine lv_if_eq (tgt := 197) hx hb dX10_breaks_179 (by decide) (fun c_8 => ?_) (fun c_8 => ?_)
                · skip
                  refine lv_iconst (v := 0) hx hb dX10_breaks_197 (by decide) ?_
                  refine lv_ior hx hb dX10_breaks_198 ?_
                  refine lv_istore_n (lv' := [(2, .int ((mB4 N t zf ro j u) ||| 0)), (0, .ref (am 0)), (1, .int (nI j)), (4, .int (nI u))]) hx hb dX10_breaks_199 rfl hl (by decide) rfl (fun ls hl => ?_)
                  have hl : lv_has ls 5 [(2, .int (mB4 N t zf ro j (u + 1))), (0, .ref (am 0)), (1, .int (nI j)), (4, .int (nI u))] := by rw [show (mB4 N t zf ro j (u + 1)) = ((mB4 N t zf ro j u) ||| 0) from by rw [mB4, if_neg (fun z9 => z9.2.1 c_8)]]; exact hl
                  refine lv_iinc (v := (nI (u + 1))) (lv' := [(4, .int (nI (u + 1))), (2, .int (mB4 N t zf ro j (u + 1))), (0, .ref (am 0)), (1, .int (nI j))]) hx hb dX10_breaks_200 hl (k := 3) rfl (nI_add u 1) (by decide) rfl (fun ls hl => ?_)
                  refine lv_goto (tgt := 156) hx hb dX10_breaks_203 (by decide) ?_
                  exact ih_156 (u + 1) ls (show (u + 1) ≤ t.1 from hlt) (show t.1 - (u + 1) < t.1 - u from by omega) (show lv_has ls 5 [(0, .ref (am 0)), (1, .int (nI j)), (2, .int (mB4 N t zf ro j (u + 1))), (4, .int (nI (u + 1)))] from lv_sub hl [2, 3, 1, 0] rfl)
                · skip
                  refine lv_aload_n hx hb dX10_breaks_182 rfl (lv_at hl 0 rfl) ?_
                  refine lv_iload_n hx hb dX10_breaks_183 rfl (lv_at hl 1 rfl) ?_
                  refine lv_iload hx hb dX10_breaks_184 (lv_at hl 3 rfl) ?_
                  refine ro_V (As := [.int (nI j), .int (nI u)]) (rest := [.int (mB4 N t zf ro j u)]) ⟨hx, hb, hml, hown, hts⟩ (c_X10_doCross l D cI cZ am N hN16 S hS24 q o ho8 ro hr10 t ht6 fo hf5 k hk8 z zf hzf j u hj hlt) (cw_X10_177 hts rfl rfl ⟨Nat.le_of_ble_eq_true rfl, Nat.le_of_ble_eq_true rfl⟩) hK hP (ci := 10) rfl rfl rfl hl.1 rfl (Nat.le_of_ble_eq_true rfl) dX10_breaks_186 ⟨Nat.zero_le _, Nat.zero_le _⟩ ?_
                  refine lv_if_eq (tgt := 197) hx hb dX10_breaks_189 (by decide) (fun c_9 => ?_) (fun c_9 => ?_)
                  · skip
                    have c_9 := zb_eq0 c_9
                    refine lv_iconst (v := 0) hx hb dX10_breaks_197 (by decide) ?_
                    refine lv_ior hx hb dX10_breaks_198 ?_
                    refine lv_istore_n (lv' := [(2, .int ((mB4 N t zf ro j u) ||| 0)), (0, .ref (am 0)), (1, .int (nI j)), (4, .int (nI u))]) hx hb dX10_breaks_199 rfl hl (by decide) rfl (fun ls hl => ?_)
                    have hl : lv_has ls 5 [(2, .int (mB4 N t zf ro j (u + 1))), (0, .ref (am 0)), (1, .int (nI j)), (4, .int (nI u))] := by rw [show (mB4 N t zf ro j (u + 1)) = ((mB4 N t zf ro j u) ||| 0) from by rw [mB4, if_neg (fun z9 => c_9 z9.2.2)]]; exact hl
                    refine lv_iinc (v := (nI (u + 1))) (lv' := [(4, .int (nI (u + 1))), (2, .int (mB4 N t zf ro j (u + 1))), (0, .ref (am 0)), (1, .int (nI j))]) hx hb dX10_breaks_200 hl (k := 3) rfl (nI_add u 1) (by decide) rfl (fun ls hl => ?_)
                    refine lv_goto (tgt := 156) hx hb dX10_breaks_203 (by decide) ?_
                    exact ih_156 (u + 1) ls (show (u + 1) ≤ t.1 from hlt) (show t.1 - (u + 1) < t.1 - u from by omega) (show lv_has ls 5 [(0, .ref (am 0)), (1, .int (nI j)), (2, .int (mB4 N t zf ro j (u + 1))), (4, .int (nI (u + 1)))] from lv_sub hl [2, 3, 1, 0] rfl)
                  · skip
                    have c_9 := zb_ne0 c_9
                    refine lv_bipush (v := 8) hx hb dX10_breaks_192 (by decide) ?_
                    refine lv_goto (tgt := 198) hx hb dX10_breaks_194 (by decide) ?_
                    refine lv_ior hx hb dX10_breaks_198 ?_
                    refine lv_istore_n (lv' := [(2, .int ((mB4 N t zf ro j u) ||| 8)), (0, .ref (am 0)), (1, .int (nI j)), (4, .int (nI u))]) hx hb dX10_breaks_199 rfl hl (by decide) rfl (fun ls hl => ?_)
                    have hl : lv_has ls 5 [(2, .int (mB4 N t zf ro j (u + 1))), (0, .ref (am 0)), (1, .int (nI j)), (4, .int (nI u))] := by rw [show (mB4 N t zf ro j (u + 1)) = ((mB4 N t zf ro j u) ||| 8) from by rw [mB4, if_pos ⟨c_7, c_8, c_9⟩]]; exact hl
                    refine lv_iinc (v := (nI (u + 1))) (lv' := [(4, .int (nI (u + 1))), (2, .int (mB4 N t zf ro j (u + 1))), (0, .ref (am 0)), (1, .int (nI j))]) hx hb dX10_breaks_200 hl (k := 3) rfl (nI_add u 1) (by decide) rfl (fun ls hl => ?_)
                    refine lv_goto (tgt := 156) hx hb dX10_breaks_203 (by decide) ?_
                    exact ih_156 (u + 1) ls (show (u + 1) ≤ t.1 from hlt) (show t.1 - (u + 1) < t.1 - u from by omega) (show lv_has ls 5 [(0, .ref (am 0)), (1, .int (nI j)), (2, .int (mB4 N t zf ro j (u + 1))), (4, .int (nI (u + 1)))] from lv_sub hl [2, 3, 1, 0] rfl)
        · skip
          have hlt : i < zf j := zlt (by have := hI.2; have := (hzf j hj).2; omega) (by have := (hzf j hj).2; omega) c_4
          have hI8 := hI
          refine lv_iload_n hx hb dX10_breaks_66 rfl (lv_at hl 2 rfl) ?_
          refine w_join (α := Int32) (fun a9 => a9 = (if hasB ro.2.1 (t.2.1 (6 * j + i)) ro.1 = true then 2 else 0)) (fun a9 => [(0, .ref (am 0)), (1, .int (nI j)), (2, .int (mB1 t ro j i)), (3, .int (mB2 N t j i)), (4, .int (nI i))]) (fun a9 => [.int a9, .int (mB1 t ro j i)]) 91 5 (fun hJ_91 => ?_) ?_
          · skip
            refine lv_aload_n hx hb dX10_breaks_67 rfl (lv_at hl 0 rfl) ?_
            refine lv_aload_n hx hb dX10_breaks_68 rfl (lv_at hl 0 rfl) ?_
            refine va_get (D := D) (ci := 10) (v := .ref (am 18)) (C := RX10) (T := TX10) (N := 41) hx hb hts hin10 hown hK.1 hP 0 rfl rfl 30 (by decide) (hts _ fl_X10_66) (fun _ h9 => h9) rfl dX10_breaks_69 ?_
            refine lv_bipush (v := 6) hx hb dX10_breaks_72 (by decide) ?_
            refine lv_iload_n hx hb dX10_breaks_74 rfl (lv_at hl 1 rfl) ?_
            refine lv_imul hx hb dX10_breaks_75 ?_
            rw [show (6 : Int32) * nI j = nI (6 * j) from pk_mul 6 j]
            refine lv_iload hx hb dX10_breaks_76 (lv_at hl 4 rfl) ?_
            refine lv_iadd hx hb dX10_breaks_78 ?_
            rw [nI_add]
            refine z_iald hx hb hK.1 hP 18 0 rfl rfl (6 * j + i) rfl (show 6 * j + i < 36 by have := (hzf j hj).2; omega) (by decide) dX10_breaks_79 ?_
            refine ro_V (As := [.int (t.2.1 (6 * j + i))]) (rest := [.int (mB1 t ro j i)]) ⟨hx, hb, hml, hown, hts⟩ (c_X10_isOnRoute l D cI cZ am N hN16 S hS24 q o ho8 ro hr10 t ht6 fo hf5 k hk8 z (t.2.1 (6 * j + i))) (cw_X10_174 hts rfl rfl ⟨Nat.le_of_ble_eq_true rfl, Nat.le_of_ble_eq_true rfl⟩) hK hP (ci := 10) rfl rfl rfl hl.1 rfl (Nat.le_of_ble_eq_true rfl) dX10_breaks_80 ⟨Nat.zero_le _, Nat.zero_le _⟩ ?_
            refine lv_if_eq (tgt := 90) hx hb dX10_breaks_83 (by decide) (fun c_10 => ?_) (fun c_10 => ?_)
            · skip
              have c_10 := zb_eq0 c_10
              refine lv_iconst (v := 0) hx hb dX10_breaks_90 (by decide) ?_
              exact hJ_91 0 ls (show 0 = (if hasB ro.2.1 (t.2.1 (6 * j + i)) ro.1 = true then 2 else 0) from by first | exact (if_pos c_10).symm | exact (if_neg c_10).symm | exact (if_pos (Int32.not_le.mp c_10)).symm | exact (if_neg (Int32.not_lt.mpr c_10)).symm) (show lv_has ls 5 [(0, .ref (am 0)), (1, .int (nI j)), (2, .int (mB1 t ro j i)), (3, .int (mB2 N t j i)), (4, .int (nI i))] from lv_sub hl [0, 1, 2, 3, 4] rfl)
            · skip
              have c_10 := zb_ne0 c_10
              refine lv_iconst (v := 2) hx hb dX10_breaks_86 (by decide) ?_
              refine lv_goto (tgt := 91) hx hb dX10_breaks_87 (by decide) ?_
              exact hJ_91 2 ls (show 2 = (if hasB ro.2.1 (t.2.1 (6 * j + i)) ro.1 = true then 2 else 0) from by first | exact (if_pos c_10).symm | exact (if_neg c_10).symm | exact (if_pos (Int32.not_le.mp c_10)).symm | exact (if_neg (Int32.not_lt.mpr c_10)).symm) (show lv_has ls 5 [(0, .ref (am 0)), (1, .int (nI j)), (2, .int (mB1 t ro j i)), (3, .int (mB2 N t j i)), (4, .int (nI i))] from lv_sub hl [0, 1, 2, 3, 4] rfl)
          · skip
            intro a9 ls hI hl
            obtain ⟨y9, rfl⟩ : ∃ z, z = a9 := ⟨a9, rfl⟩
            have hI : y9 = (if hasB ro.2.1 (t.2.1 (6 * j + i)) ro.1 = true then 2 else 0) := hI
            subst hI
            have hl : lv_has ls 5 [(0, .ref (am 0)), (1, .int (nI j)), (2, .int (mB1 t ro j i)), (3, .int (mB2 N t j i)), (4, .int (nI i))] := hl
            refine lv_ior hx hb dX10_breaks_91 ?_
            refine lv_istore_n (lv' := [(2, .int ((mB1 t ro j i) ||| (if hasB ro.2.1 (t.2.1 (6 * j + i)) ro.1 = true then 2 else 0))), (0, .ref (am 0)), (1, .int (nI j)), (3, .int (mB2 N t j i)), (4, .int (nI i))]) hx hb dX10_breaks_92 rfl hl (by decide) rfl (fun ls hl => ?_)
            have hl : lv_has ls 5 [(2, .int (mB1 t ro j (i + 1))), (0, .ref (am 0)), (1, .int (nI j)), (3, .int (mB2 N t j i)), (4, .int (nI i))] := by rw [show (mB1 t ro j (i + 1)) = ((mB1 t ro j i) ||| (if hasB ro.2.1 (t.2.1 (6 * j + i)) ro.1 = true then 2 else 0)) from by rw [mB1, if_neg (by have := hI8.1; omega)]]; exact hl
            refine lv_iload_n hx hb dX10_breaks_93 rfl (lv_at hl 3 rfl) ?_
            refine lv_aload_n hx hb dX10_breaks_94 rfl (lv_at hl 1 rfl) ?_
            refine va_get (D := D) (ci := 10) (v := .ref (am 3)) (C := RX10) (T := TX10) (N := 41) hx hb hts hin10 hown hK.1 hP 0 rfl rfl 3 (by decide) (hts _ fl_X10_16) (fun _ h9 => h9) rfl dX10_breaks_95 ?_
            refine lv_aload_n hx hb dX10_breaks_98 rfl (lv_at hl 1 rfl) ?_
            refine lv_aload_n hx hb dX10_breaks_99 rfl (lv_at hl 1 rfl) ?_
            refine va_get (D := D) (ci := 10) (v := .ref (am 18)) (C := RX10) (T := TX10) (N := 41) hx hb hts hin10 hown hK.1 hP 0 rfl rfl 30 (by decide) (hts _ fl_X10_66) (fun _ h9 => h9) rfl dX10_breaks_100 ?_
            refine lv_bipush (v := 6) hx hb dX10_breaks_103 (by decide) ?_
            refine lv_iload_n hx hb dX10_breaks_105 rfl (lv_at hl 2 rfl) ?_
            refine lv_imul hx hb dX10_breaks_106 ?_
            rw [show (6 : Int32) * nI j = nI (6 * j) from pk_mul 6 j]
            refine lv_iload hx hb dX10_breaks_107 (lv_at hl 4 rfl) ?_
            refine lv_iadd hx hb dX10_breaks_109 ?_
            rw [nI_add]
            refine lv_iconst (v := 1) hx hb dX10_breaks_110 (by decide) ?_
            refine lv_isub hx hb dX10_breaks_111 ?_
            rw [show nI (6 * j + i) - 1 = nI (6 * j + i - 1) from pk_sub (a := 6 * j + i) (b := 1) (by have := hI8.1; omega)]
            refine z_iald hx hb hK.1 hP 18 0 rfl rfl (6 * j + i - 1) rfl (show 6 * j + i - 1 < 36 by have := (hzf j hj).2; omega) (by decide) dX10_breaks_112 ?_
            refine lv_aload_n hx hb dX10_breaks_113 rfl (lv_at hl 1 rfl) ?_
            refine va_get (D := D) (ci := 10) (v := .ref (am 18)) (C := RX10) (T := TX10) (N := 41) hx hb hts hin10 hown hK.1 hP 0 rfl rfl 30 (by decide) (hts _ fl_X10_66) (fun _ h9 => h9) rfl dX10_breaks_114 ?_
            refine lv_bipush (v := 6) hx hb dX10_breaks_117 (by decide) ?_
            refine lv_iload_n hx hb dX10_breaks_119 rfl (lv_at hl 2 rfl) ?_
            refine lv_imul hx hb dX10_breaks_120 ?_
            rw [show (6 : Int32) * nI j = nI (6 * j) from pk_mul 6 j]
            refine lv_iload hx hb dX10_breaks_121 (lv_at hl 4 rfl) ?_
            refine lv_iadd hx hb dX10_breaks_123 ?_
            rw [nI_add]
            refine z_iald hx hb hK.1 hP 18 0 rfl rfl (6 * j + i) rfl (show 6 * j + i < 36 by have := (hzf j hj).2; omega) (by decide) dX10_breaks_124 ?_
            refine ro_V (As := [.int (t.2.1 (6 * j + i - 1)), .int (t.2.1 (6 * j + i))]) (rest := [.ref (am 3), .int (mB2 N t j i)]) ⟨hx, hb, hml, hown, hts⟩ (c_X10_joins l D cI cZ am N hN16 S hS24 q o ho8 ro hr10 t ht6 fo hf5 k hk8 z (t.2.1 (6 * j + i - 1)) (t.2.1 (6 * j + i))) (cw_X10_105 hts rfl rfl ⟨Nat.le_of_ble_eq_true rfl, Nat.le_of_ble_eq_true rfl⟩) hK hP (ci := 10) rfl rfl rfl hl.1 rfl (Nat.le_of_ble_eq_true rfl) dX10_breaks_125 ⟨Nat.zero_le _, Nat.zero_le _⟩ ?_
            obtain ⟨jk, hjk, ejk⟩ : ∃ jk : Nat, jk < N_n N ∧ mJk N t j i = nI jk := (mJo_lt (N_n N)).resolve_left (hjn j hj i hI8.1 hlt)
            refine z_iald hx hb hK.1 hP 3 0 rfl rfl jk ejk (show jk < 16 by omega) (by decide) dX10_breaks_128 ?_
            refine lv_iadd hx hb dX10_breaks_129 ?_
            refine lv_istore_n (lv' := [(3, .int ((mB2 N t j i) + ((N_l N) jk))), (2, .int (mB1 t ro j (i + 1))), (0, .ref (am 0)), (1, .int (nI j)), (4, .int (nI i))]) hx hb dX10_breaks_130 rfl hl (by decide) rfl (fun ls hl => ?_)
            have hl : lv_has ls 5 [(3, .int (mB2 N t j (i + 1))), (2, .int (mB1 t ro j (i + 1))), (0, .ref (am 0)), (1, .int (nI j)), (4, .int (nI i))] := by rw [show (mB2 N t j (i + 1)) = ((mB2 N t j i) + ((N_l N) jk)) from by rw [mB2, if_neg (by have := hI8.1; omega), ejk, nI_cl (by omega)]]; exact hl
            refine lv_iinc (v := (nI (i + 1))) (lv' := [(4, .int (nI (i + 1))), (3, .int (mB2 N t j (i + 1))), (2, .int (mB1 t ro j (i + 1))), (0, .ref (am 0)), (1, .int (nI j))]) hx hb dX10_breaks_131 hl (k := 4) rfl (nI_add i 1) (by decide) rfl (fun ls hl => ?_)
            refine lv_goto (tgt := 55) hx hb dX10_breaks_134 (by decide) ?_
            exact ih_55 (i + 1) ls (show 1 ≤ (i + 1) ∧ ((i + 1) ≤ zf j ∨ (i + 1) = 1) from ⟨by omega, Or.inl hlt⟩) (show zf j + 1 - (i + 1) < zf j + 1 - i from by omega) (show lv_has ls 5 [(0, .ref (am 0)), (1, .int (nI j)), (2, .int (mB1 t ro j (i + 1))), (3, .int (mB2 N t j (i + 1))), (4, .int (nI (i + 1)))] from lv_sub hl [3, 4, 2, 1, 0] rfl)
    · skip
      refine lv_iconst (v := 0) hx hb dX10_breaks_26 (by decide) ?_
      exact ro_iret hx hb hr hlocks (by show (0 : Int32) = mXbreaks N t zf ro x; unfold mXbreaks; rw [ej, nI_cl (by omega)]; rw [if_pos c_1, if_pos c_2]) dX10_breaks_27
  · skip
    have c_1 := zb_eq0 c_1
    refine lv_bipush (v := (-2)) hx hb dX10_breaks_14 (by decide) ?_
    exact ro_iret hx hb hr hlocks (by show ((-2) : Int32) = mXbreaks N t zf ro x; unfold mXbreaks; rw [if_neg c_1]) dX10_breaks_16
