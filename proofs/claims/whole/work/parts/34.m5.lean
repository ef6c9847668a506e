def mXsign (N : TN) (S : TS) (q : TQ) (y1 y2 y3 y4 y5 y6 : Int32) : Int32 × TS :=
  if 0 ≤ y1 ∧ y1 ≤ 9 then if (0 ≤ y2 ∧ y2 ≤ 1) ∧ ¬ mAt N y3 y1 = true then (-2, S) else if 0 ≤ y2 ∧ y2 ≤ 3 then if y2 = 2 ∧ ¬ (0 ≤ y3 ∧ y3 ≤ 9) then (-3, S) else if y2 = 3 ∧ ¬ (0 ≤ y3 ∧ y3 ≤ 5) then (-3, S) else if 1 ≤ y4 ∧ y4 ≤ 60 then if (y5 &&& (mPA N y1 (N_n N) ^^^ (-1))) = 0 then if nI (S_n S) = 24 then (-5, S) else (nI (S_n S), (S_n S + 1, upd (S_p S) (S_n S) y1, upd (S_k S) (S_n S) y2, upd (S_v S) (S_n S) y3, upd (S_f S) (S_n S) y4, upd (S_d S) (S_n S) q.1, upd (S_u S) (S_n S) 0, upd (S_y S) (S_n S) y5, upd (S_t S) (S_n S) y6)) else (-3, S) else (-3, S) else (-3, S) else (-2, S)
set_option maxHeartbeats 4000000 in
set_option maxRecDepth 100000 in
theorem c_X10_sign (l : Launch) (D : va_G) (cI cZ : ClassId) (am : Nat → Nat) (N : TN) (hN16 : N_n N ≤ 16) (S : TS) (hS24 : S_n S ≤ 24) (q : TQ) (o : TO) (ho8 : o.1 ≤ 8) (ro : TR) (hr10 : ro.1 ≤ 10) (t : TT) (ht6 : t.1 ≤ 6) (fo : TF) (hf5 : fo.1 ≤ 5) (k : TC) (hk8 : k.2.1 ≤ 8) (z : TZ) (y1 y2 y3 y4 y5 y6 : Int32) (hy : y6 = 0 ∨ y6 = 1) : MI l D cI cZ yX10_sign wyX10_sign ({ frames := 3, cells := 0, slots := 0, locals := 67 } : Room) [.ref (am 0), .int y1, .int y2, .int y3, .int y4, .int y5, .int y6] (wM am cI cZ N S q o ro t fo k z) (fun r u => (r, u) = mXsign N S q y1 y2 y3 y4 y5 y6) (fun (u : TS) => wM am cI cZ N u q o ro t fo k z) := by
  refine Met.ofW (cc := cX10_sign) (maxL := 7) (ret := (some .int)) (by decide) rfl ?_
  intro p e s m args below meth c s₁ B hml hv
  obtain ⟨rfl, hK, hP, hD0⟩ := hv
  have hx := B.exec
  have hb := B.bytes
  have hr := B.returns
  have hts0 := atoms_spec (ws := wyX10_sign) B.pre
  have hts : ∀ w ∈ big, w.before _ s = true := fun w h => hts0 w (List.mem_cons_of_mem _ h)
  have hown : s.vm.findClass RX10 = some m.cls := findClass_of_methodNamed B.named
  have hlocks := B.notSynchronized
  have hD := D_inW hD0
  have hS : va_S (inW (wM am cI cZ N S q o ro t fo k z)) s.heap s.heap [] := va_S.rf
  have hl := lv_entry ([.ref (am 0), .int y1, .int y2, .int y3, .int y4, .int y5, .int y6]) (n := 7) (Nat.le_of_ble_eq_true rfl)
  rw [lg_entry_eq]
  generalize (lg_sl ([.ref (am 0), .int y1, .int y2, .int y3, .int y4, .int y5, .int y6]) ++ List.replicate (7 - (lg_sl ([.ref (am 0), .int y1, .int y2, .int y3, .int y4, .int y5, .int y6])).length) Slot.unset).toArray = ls at hl ⊢
  have hl : lv_has ls 7 [(0, .ref (am 0)), (1, .int y1), (2, .int y2), (3, .int y3), (4, .int y4), (5, .int y5), (6, .int y6)] := hl
  refine lv_iload_n hx hb dX10_sign_0 rfl (lv_at hl 1 rfl) ?_
  refine ro_S (As := [.int y1]) (rest := []) ⟨hx, hb, hml, hown, hts⟩ (c_X10_isPlace l D cI cZ  y1) (cw_X10_101 hts rfl rfl ⟨Nat.le_of_ble_eq_true rfl, Nat.le_of_ble_eq_true rfl⟩) hK P_nil rfl hl.1 rfl (Nat.le_of_ble_eq_true rfl) dX10_sign_1 ⟨Nat.zero_le _, Nat.zero_le _⟩ ?_
  refine lv_if_eq (tgt := 25) hx hb dX10_sign_4 (by decide) (fun c_1 => ?_) (fun c_1 => ?_)
  · skip
    have c_1 := zb_eq0 c_1
    refine lv_bipush (v := (-2)) hx hb dX10_sign_25 (by decide) ?_
    exact mu_iret (v := (-2)) hx hb hr hlocks (S) (by show (((-2) : Int32), S) = mXsign N S q y1 y2 y3 y4 y5 y6; unfold mXsign; (first | rw [if_pos c_1] | rw [if_neg c_1] | skip); (try rfl)) (hP) hS dX10_sign_27
  · skip
    have c_1 := zb_ne0 c_1
    refine lv_iload_n hx hb dX10_sign_7 rfl (lv_at hl 2 rfl) ?_
    refine lv_iconst (v := 0) hx hb dX10_sign_8 (by decide) ?_
    refine lv_iconst (v := 1) hx hb dX10_sign_9 (by decide) ?_
    refine ro_S (As := [.int y2, .int 0, .int 1]) (rest := []) ⟨hx, hb, hml, hown, hts⟩ (c_X10_in l D cI cZ  y2 0 1) (cw_X10_90 hts rfl rfl ⟨Nat.le_of_ble_eq_true rfl, Nat.le_of_ble_eq_true rfl⟩) hK P_nil rfl hl.1 rfl (Nat.le_of_ble_eq_true rfl) dX10_sign_10 ⟨Nat.zero_le _, Nat.zero_le _⟩ ?_
    refine lv_if_eq (tgt := 28) hx hb dX10_sign_13 (by decide) (fun c_2 => ?_) (fun c_2 => ?_)
    · skip
      have c_2 := zb_eq0 c_2
      have c_2n : ¬ ((0 ≤ y2 ∧ y2 ≤ 1) ∧ ¬ mAt N y3 y1 = true) := fun z9 => c_2 z9.1
      refine lv_iload_n hx hb dX10_sign_28 rfl (lv_at hl 2 rfl) ?_
      refine lv_iconst (v := 0) hx hb dX10_sign_29 (by decide) ?_
      refine lv_iconst (v := 3) hx hb dX10_sign_30 (by decide) ?_
      refine ro_S (As := [.int y2, .int 0, .int 3]) (rest := []) ⟨hx, hb, hml, hown, hts⟩ (c_X10_in l D cI cZ  y2 0 3) (cw_X10_90 hts rfl rfl ⟨Nat.le_of_ble_eq_true rfl, Nat.le_of_ble_eq_true rfl⟩) hK P_nil rfl hl.1 rfl (Nat.le_of_ble_eq_true rfl) dX10_sign_31 ⟨Nat.zero_le _, Nat.zero_le _⟩ ?_
      refine lv_if_eq (tgt := 90) hx hb dX10_sign_34 (by decide) (fun c_3 => ?_) (fun c_3 => ?_)
      · skip
        have c_3 := zb_eq0 c_3
        refine lv_bipush (v := (-3)) hx hb dX10_sign_90 (by decide) ?_
        exact mu_iret (v := (-3)) hx hb hr hlocks (S) (by show (((-3) : Int32), S) = mXsign N S q y1 y2 y3 y4 y5 y6; unfold mXsign; (first | rw [if_pos c_1] | rw [if_neg c_1] | skip); (first | rw [if_pos c_2n] | rw [if_neg c_2n] | skip); (first | rw [if_pos c_3] | rw [if_neg c_3] | skip); (try rfl)) (hP) hS dX10_sign_92
      · skip
        have c_3 := zb_ne0 c_3
        refine lv_iload_n hx hb dX10_sign_37 rfl (lv_at hl 2 rfl) ?_
        refine lv_iconst (v := 2) hx hb dX10_sign_38 (by decide) ?_
        refine lv_icmp_ne (tgt := 52) hx hb dX10_sign_39 (by decide) (fun c_4 => ?_) (fun c_4 => ?_)
        · skip
          have c_4n : ¬ (y2 = 2 ∧ ¬ (0 ≤ y3 ∧ y3 ≤ 9)) := fun z9 => c_4 z9.1
          refine lv_iload_n hx hb dX10_sign_52 rfl (lv_at hl 2 rfl) ?_
          refine lv_iconst (v := 3) hx hb dX10_sign_53 (by decide) ?_
          refine lv_icmp_ne (tgt := 66) hx hb dX10_sign_54 (by decide) (fun c_5 => ?_) (fun c_5 => ?_)
          · skip
            have c_5n : ¬ (y2 = 3 ∧ ¬ (0 ≤ y3 ∧ y3 ≤ 5)) := fun z9 => c_5 z9.1
            refine lv_iload hx hb dX10_sign_66 (lv_at hl 4 rfl) ?_
            refine lv_iconst (v := 1) hx hb dX10_sign_68 (by decide) ?_
            refine lv_bipush (v := 60) hx hb dX10_sign_69 (by decide) ?_
            refine ro_S (As := [.int y4, .int 1, .int 60]) (rest := []) ⟨hx, hb, hml, hown, hts⟩ (c_X10_in l D cI cZ  y4 1 60) (cw_X10_90 hts rfl rfl ⟨Nat.le_of_ble_eq_true rfl, Nat.le_of_ble_eq_true rfl⟩) hK P_nil rfl hl.1 rfl (Nat.le_of_ble_eq_true rfl) dX10_sign_71 ⟨Nat.zero_le _, Nat.zero_le _⟩ ?_
            refine lv_if_eq (tgt := 90) hx hb dX10_sign_74 (by decide) (fun c_6 => ?_) (fun c_6 => ?_)
            · skip
              have c_6 := zb_eq0 c_6
              refine lv_bipush (v := (-3)) hx hb dX10_sign_90 (by decide) ?_
              exact mu_iret (v := (-3)) hx hb hr hlocks (S) (by show (((-3) : Int32), S) = mXsign N S q y1 y2 y3 y4 y5 y6; unfold mXsign; (first | rw [if_pos c_1] | rw [if_neg c_1] | skip); (first | rw [if_pos c_2n] | rw [if_neg c_2n] | skip); (first | rw [if_pos c_3] | rw [if_neg c_3] | skip); (first | rw [if_pos c_4n] | rw [if_neg c_4n] | skip); (first | rw [if_pos c_5n] | rw [if_neg c_5n] | skip); (first | rw [if_pos c_6] | rw [if_neg c_6] | skip); (try rfl)) (hP) hS dX10_sign_92
            · skip
              have c_6 := zb_ne0 c_6
              refine lv_iload hx hb dX10_sign_77 (lv_at hl 5 rfl) ?_
              refine lv_aload_n hx hb dX10_sign_79 rfl (lv_at hl 0 rfl) ?_
              refine lv_iload_n hx hb dX10_sign_80 rfl (lv_at hl 1 rfl) ?_
              refine ro_V (As := [.int y1]) (rest := [.int y5]) ⟨hx, hb, hml, hown, hts⟩ (c_X10_pathsAt l D cI cZ am N hN16 S hS24 q o ho8 ro hr10 t ht6 fo hf5 k hk8 z y1) (cw_X10_118 hts rfl rfl ⟨Nat.le_of_ble_eq_true rfl, Nat.le_of_ble_eq_true rfl⟩) hK hP (ci := 10) rfl rfl rfl hl.1 rfl (Nat.le_of_ble_eq_true rfl) dX10_sign_81 ⟨Nat.zero_le _, Nat.zero_le _⟩ ?_
              refine lv_iconst (v := (-1)) hx hb dX10_sign_84 (by decide) ?_
              refine lv_ixor hx hb dX10_sign_85 ?_
              refine lv_iand hx hb dX10_sign_86 ?_
              refine lv_if_eq (tgt := 93) hx hb dX10_sign_87 (by decide) (fun c_7 => ?_) (fun c_7 => ?_)
              · skip
                refine lv_aload_n hx hb dX10_sign_93 rfl (lv_at hl 0 rfl) ?_
                refine va_get (D := D) (ci := 10) (v := .int (nI (S_n S))) (C := RX10) (T := TX10) (N := 41) hx hb hts hin10 hown hK.1 hP 0 rfl rfl 6 (by decide) (hts _ fl_X10_115) (fun _ h9 => h9) rfl dX10_sign_94 ?_
                refine lv_bipush (v := 24) hx hb dX10_sign_97 (by decide) ?_
                refine lv_icmp_ne (tgt := 105) hx hb dX10_sign_99 (by decide) (fun c_8 => ?_) (fun c_8 => ?_)
                · skip
                  have hb9 : (S_n S) < 24 := by have h9 : (S_n S) ≠ 24 := fun q9 => c_8 (by rw [q9]; rfl); omega
                  refine lv_aload_n hx hb dX10_sign_105 rfl (lv_at hl 0 rfl) ?_
                  refine va_get (D := D) (ci := 10) (v := .ref (am 4)) (C := RX10) (T := TX10) (N := 41) hx hb hts hin10 hown hK.1 hP 0 rfl rfl 7 (by decide) (hts _ fl_X10_19) (fun _ h9 => h9) rfl dX10_sign_106 ?_
                  refine lv_aload_n hx hb dX10_sign_109 rfl (lv_at hl 0 rfl) ?_
                  refine va_get (D := D) (ci := 10) (v := .int (nI (S_n S))) (C := RX10) (T := TX10) (N := 41) hx hb hts hin10 hown hK.1 hP 0 rfl rfl 6 (by decide) (hts _ fl_X10_115) (fun _ h9 => h9) rfl dX10_sign_110 ?_
                  refine lv_iload_n hx hb dX10_sign_113 rfl (lv_at hl 1 rfl) ?_
                  refine z_iast hx hb hK.1 hP hD hS 4 0 rfl rfl (S_n S) rfl hb9 (by decide)  dX10_sign_114 (fun H locs hP hD hS => ?_)
                  have hP : va_P D vwCl (wM am cI cZ N ((S_n S), (upd (S_p S) (S_n S) y1), (S_k S), (S_v S), (S_f S), (S_d S), (S_u S), (S_y S), (S_t S)) q o ro t fo k z) H := hP
                  have hD : va_D _ (wM am cI cZ N ((S_n S), (upd (S_p S) (S_n S) y1), (S_k S), (S_v S), (S_f S), (S_d S), (S_u S), (S_y S), (S_t S)) q o ro t fo k z) := hD
                  refine lv_aload_n hx hb dX10_sign_115 rfl (lv_at hl 0 rfl) ?_
                  refine va_get (D := D) (ci := 10) (v := .ref (am 5)) (C := RX10) (T := TX10) (N := 41) hx hb hts hin10 hown hK.1 hP 0 rfl rfl 8 (by decide) (hts _ fl_X10_22) (fun _ h9 => h9) rfl dX10_sign_116 ?_
                  refine lv_aload_n hx hb dX10_sign_119 rfl (lv_at hl 0 rfl) ?_
                  refine va_get (D := D) (ci := 10) (v := .int (nI (S_n S))) (C := RX10) (T := TX10) (N := 41) hx hb hts hin10 hown hK.1 hP 0 rfl rfl 6 (by decide) (hts _ fl_X10_115) (fun _ h9 => h9) rfl dX10_sign_120 ?_
                  refine lv_iload_n hx hb dX10_sign_123 rfl (lv_at hl 2 rfl) ?_
                  refine z_iast hx hb hK.1 hP hD hS 5 0 rfl rfl (S_n S) rfl hb9 (by decide)  dX10_sign_124 (fun H locs hP hD hS => ?_)
                  have hP : va_P D vwCl (wM am cI cZ N ((S_n S), (upd (S_p S) (S_n S) y1), (upd (S_k S) (S_n S) y2), (S_v S), (S_f S), (S_d S), (S_u S), (S_y S), (S_t S)) q o ro t fo k z) H := hP
                  have hD : va_D _ (wM am cI cZ N ((S_n S), (upd (S_p S) (S_n S) y1), (upd (S_k S) (S_n S) y2), (S_v S), (S_f S), (S_d S), (S_u S), (S_y S), (S_t S)) q o ro t fo k z) := hD
                  refine lv_aload_n hx hb dX10_sign_125 rfl (lv_at hl 0 rfl) ?_
                  refine va_get (D := D) (ci := 10) (v := .ref (am 6)) (C := RX10) (T := TX10) (N := 41) hx hb hts hin10 hown hK.1 hP 0 rfl rfl 9 (by decide) (hts _ fl_X10_25) (fun _ h9 => h9) rfl dX10_sign_126 ?_
                  refine lv_aload_n hx hb dX10_sign_129 rfl (lv_at hl 0 rfl) ?_
                  refine va_get (D := D) (ci := 10) (v := .int (nI (S_n S))) (C := RX10) (T := TX10) (N := 41) hx hb hts hin10 hown hK.1 hP 0 rfl rfl 6 (by decide) (hts _ fl_X10_115) (fun _ h9 => h9) rfl dX10_sign_130 ?_
                  refine lv_iload_n hx hb dX10_sign_133 rfl (lv_at hl 3 rfl) ?_
                  refine z_iast hx hb hK.1 hP hD hS 6 0 rfl rfl (S_n S) rfl hb9 (by decide)  dX10_sign_134 (fun H locs hP hD hS => ?_)
                  have hP : va_P D vwCl (wM am cI cZ N ((S_n S), (upd (S_p S) (S_n S) y1), (upd (S_k S) (S_n S) y2), (upd (S_v S) (S_n S) y3), (S_f S), (S_d S), (S_u S), (S_y S), (S_t S)) q o ro t fo k z) H := hP
                  have hD : va_D _ (wM am cI cZ N ((S_n S), (upd (S_p S) (S_n S) y1), (upd (S_k S) (S_n S) y2), (upd (S_v S) (S_n S) y3), (S_f S), (S_d S), (S_u S), (S_y S), (S_t S)) q o ro t fo k z) := hD
                  refine lv_aload_n hx hb dX10_sign_135 rfl (lv_at hl 0 rfl) ?_
                  refine va_get (D := D) (ci := 10) (v := .ref (am 7)) (C := RX10) (T := TX10) (N := 41) hx hb hts hin10 hown hK.1 hP 0 rfl rfl 10 (by decide) (hts _ fl_X10_28) (fun _ h9 => h9) rfl dX10_sign_136 ?_
                  refine lv_aload_n hx hb dX10_sign_139 rfl (lv_at hl 0 rfl) ?_
                  refine va_get (D := D) (ci := 10) (v := .int (nI (S_n S))) (C := RX10) (T := TX10) (N := 41) hx hb hts hin10 hown hK.1 hP 0 rfl rfl 6 (by decide) (hts _ fl_X10_115) (fun _ h9 => h9) rfl dX10_sign_140 ?_
                  refine lv_iload hx hb dX10_sign_143 (lv_at hl 4 rfl) ?_
                  refine z_iast hx hb hK.1 hP hD hS 7 0 rfl rfl (S_n S) rfl hb9 (by decide)  dX10_sign_145 (fun H locs hP hD hS => ?_)
                  have hP : va_P D vwCl (wM am cI cZ N ((S_n S), (upd (S_p S) (S_n S) y1), (upd (S_k S) (S_n S) y2), (upd (S_v S) (S_n S) y3), (upd (S_f S) (S_n S) y4), (S_d S), (S_u S), (S_y S), (S_t S)) q o ro t fo k z) H := hP
                  have hD : va_D _ (wM am cI cZ N ((S_n S), (upd (S_p S) (S_n S) y1), (upd (S_k S) (S_n S) y2), (upd (S_v S) (S_n S) y3), (upd (S_f S) (S_n S) y4), (S_d S), (S_u S), (S_y S), (S_t S)) q o ro t fo k z) := hD
                  refine lv_aload_n hx hb dX10_sign_146 rfl (lv_at hl 0 rfl) ?_
                  refine va_get (D := D) (ci := 10) (v := .ref (am 8)) (C := RX10) (T := TX10) (N := 41) hx hb hts hin10 hown hK.1 hP 0 rfl rfl 11 (by decide) (hts _ fl_X10_31) (fun _ h9 => h9) rfl dX10_sign_147 ?_
                  refine lv_aload_n hx hb dX10_sign_150 rfl (lv_at hl 0 rfl) ?_
                  refine va_get (D := D) (ci := 10) (v := .int (nI (S_n S))) (C := RX10) (T := TX10) (N := 41) hx hb hts hin10 hown hK.1 hP 0 rfl rfl 6 (by decide) (hts _ fl_X10_115) (fun _ h9 => h9) rfl dX10_sign_151 ?_
                  refine lv_aload_n hx hb dX10_sign_154 rfl (lv_at hl 0 rfl) ?_
                  refine va_get (D := D) (ci := 10) (v := .int q.1) (C := RX10) (T := TX10) (N := 41) hx hb hts hin10 hown hK.1 hP 0 rfl rfl 4 (by decide) (hts _ fl_X10_112) (fun _ h9 => h9) rfl dX10_sign_155 ?_
                  refine z_iast hx hb hK.1 hP hD hS 8 0 rfl rfl (S_n S) rfl hb9 (by decide)  dX10_sign_158 (fun H locs hP hD hS => ?_)
                  have hP : va_P D vwCl (wM am cI cZ N ((S_n S), (upd (S_p S) (S_n S) y1), (upd (S_k S) (S_n S) y2), (upd (S_v S) (S_n S) y3), (upd (S_f S) (S_n S) y4), (upd (S_d S) (S_n S) q.1), (S_u S), (S_y S), (S_t S)) q o ro t fo k z) H := hP
                  have hD : va_D _ (wM am cI cZ N ((S_n S), (upd (S_p S) (S_n S) y1), (upd (S_k S) (S_n S) y2), (upd (S_v S) (S_n S) y3), (upd (S_f S) (S_n S) y4), (upd (S_d S) (S_n S) q.1), (S_u S), (S_y S), (S_t S)) q o ro t fo k z) := hD
                  refine lv_aload_n hx hb dX10_sign_159 rfl (lv_at hl 0 rfl) ?_
                  refine va_get (D := D) (ci := 10) (v := .ref (am 9)) (C := RX10) (T := TX10) (N := 41) hx hb hts hin10 hown hK.1 hP 0 rfl rfl 12 (by decide) (hts _ fl_X10_34) (fun _ h9 => h9) rfl dX10_sign_160 ?_
                  refine lv_aload_n hx hb dX10_sign_163 rfl (lv_at hl 0 rfl) ?_
                  refine va_get (D := D) (ci := 10) (v := .int (nI (S_n S))) (C := RX10) (T := TX10) (N := 41) hx hb hts hin10 hown hK.1 hP 0 rfl rfl 6 (by decide) (hts _ fl_X10_115) (fun _ h9 => h9) rfl dX10_sign_164 ?_
                  refine lv_iload hx hb dX10_sign_167 (lv_at hl 5 rfl) ?_
                  refine z_iast hx hb hK.1 hP hD hS 9 0 rfl rfl (S_n S) rfl hb9 (by decide)  dX10_sign_169 (fun H locs hP hD hS => ?_)
                  have hP : va_P D vwCl (wM am cI cZ N ((S_n S), (upd (S_p S) (S_n S) y1), (upd (S_k S) (S_n S) y2), (upd (S_v S) (S_n S) y3), (upd (S_f S) (S_n S) y4), (upd (S_d S) (S_n S) q.1), (S_u S), (upd (S_y S) (S_n S) y5), (S_t S)) q o ro t fo k z) H := hP
                  have hD : va_D _ (wM am cI cZ N ((S_n S), (upd (S_p S) (S_n S) y1), (upd (S_k S) (S_n S) y2), (upd (S_v S) (S_n S) y3), (upd (S_f S) (S_n S) y4), (upd (S_d S) (S_n S) q.1), (S_u S), (upd (S_y S) (S_n S) y5), (S_t S)) q o ro t fo k z) := hD
                  refine lv_aload_n hx hb dX10_sign_170 rfl (lv_at hl 0 rfl) ?_
                  refine va_get (D := D) (ci := 10) (v := .ref (am 10)) (C := RX10) (T := TX10) (N := 41) hx hb hts hin10 hown hK.1 hP 0 rfl rfl 13 (by decide) (hts _ fl_X10_37) (fun _ h9 => h9) rfl dX10_sign_171 ?_
                  refine lv_aload_n hx hb dX10_sign_174 rfl (lv_at hl 0 rfl) ?_
                  refine va_get (D := D) (ci := 10) (v := .int (nI (S_n S))) (C := RX10) (T := TX10) (N := 41) hx hb hts hin10 hown hK.1 hP 0 rfl rfl 6 (by decide) (hts _ fl_X10_115) (fun _ h9 => h9) rfl dX10_sign_175 ?_
                  refine lv_iload hx hb dX10_sign_178 (lv_at hl 6 rfl) ?_
                  refine z_zast hx hb hK.1 hP hD hS 10 1 rfl rfl (S_n S) rfl hb9 (by decide) (by rcases hy with h9 | h9 <;> rw [h9] <;> rfl) dX10_sign_180 (fun H locs hP hD hS => ?_)
                  have hP : va_P D vwCl (wM am cI cZ N ((S_n S), (upd (S_p S) (S_n S) y1), (upd (S_k S) (S_n S) y2), (upd (S_v S) (S_n S) y3), (upd (S_f S) (S_n S) y4), (upd (S_d S) (S_n S) q.1), (S_u S), (upd (S_y S) (S_n S) y5), (upd (S_t S) (S_n S) y6)) q o ro t fo k z) H := hP
                  have hD : va_D _ (wM am cI cZ N ((S_n S), (upd (S_p S) (S_n S) y1), (upd (S_k S) (S_n S) y2), (upd (S_v S) (S_n S) y3), (upd (S_f S) (S_n S) y4), (upd (S_d S) (S_n S) q.1), (S_u S), (upd (S_y S) (S_n S) y5), (upd (S_t S) (S_n S) y6)) q o ro t fo k z) := hD
                  refine lv_aload_n hx hb dX10_sign_181 rfl (lv_at hl 0 rfl) ?_
                  refine va_get (D := D) (ci := 10) (v := .ref (am 11)) (C := RX10) (T := TX10) (N := 41) hx hb hts hin10 hown hK.1 hP 0 rfl rfl 14 (by decide) (hts _ fl_X10_41) (fun _ h9 => h9) rfl dX10_sign_182 ?_
                  refine lv_aload_n hx hb dX10_sign_185 rfl (lv_at hl 0 rfl) ?_
                  refine va_get (D := D) (ci := 10) (v := .int (nI (S_n S))) (C := RX10) (T := TX10) (N := 41) hx hb hts hin10 hown hK.1 hP 0 rfl rfl 6 (by decide) (hts _ fl_X10_115) (fun _ h9 => h9) rfl dX10_sign_186 ?_
                  refine lv_iconst (v := 0) hx hb dX10_sign_189 (by decide) ?_
                  refine z_zast hx hb hK.1 hP hD hS 11 1 rfl rfl (S_n S) rfl hb9 (by decide) rfl dX10_sign_190 (fun H locs hP hD hS => ?_)
                  have hP : va_P D vwCl (wM am cI cZ N ((S_n S), (upd (S_p S) (S_n S) y1), (upd (S_k S) (S_n S) y2), (upd (S_v S) (S_n S) y3), (upd (S_f S) (S_n S) y4), (upd (S_d S) (S_n S) q.1), (upd (S_u S) (S_n S) 0), (upd (S_y S) (S_n S) y5), (upd (S_t S) (S_n S) y6)) q o ro t fo k z) H := hP
                  have hD : va_D _ (wM am cI cZ N ((S_n S), (upd (S_p S) (S_n S) y1), (upd (S_k S) (S_n S) y2), (upd (S_v S) (S_n S) y3), (upd (S_f S) (S_n S) y4), (upd (S_d S) (S_n S) q.1), (upd (S_u S) (S_n S) 0), (upd (S_y S) (S_n S) y5), (upd (S_t S) (S_n S) y6)) q o ro t fo k z) := hD
                  refine lv_aload_n hx hb dX10_sign_191 rfl (lv_at hl 0 rfl) ?_
                  refine lv_dup hx hb dX10_sign_192 rfl ?_
                  refine va_get (D := D) (ci := 10) (v := .int (nI (S_n S))) (C := RX10) (T := TX10) (N := 41) hx hb hts hin10 hown hK.1 hP 0 rfl rfl 6 (by decide) (hts _ fl_X10_115) (fun _ h9 => h9) rfl dX10_sign_193 ?_
                  refine lv_iconst (v := 1) hx hb dX10_sign_196 (by decide) ?_
                  refine lv_iadd hx hb dX10_sign_197 ?_
                  rw [nI_1 (S_n S)]
                  refine va_put (D := D) (ci := 10) (v := .int (nI ((S_n S) + 1))) (ty := .int) (C := RX10) (T := TX10) (N := 41) hx hb hts hin10 tyX10 tyX10_ok nmX10 hown hK.1 hP hD hS 0 rfl rfl 6 (by decide) (hts _ fl_X10_115) (fun _ h9 => h9) rfl (by decide +kernel) rfl rfl (Nat.le_of_ble_eq_true rfl) dX10_sign_198 (fun H locs hP hD hS => ?_)
                  have hP : va_P D vwCl (wM am cI cZ N (((S_n S) + 1), (upd (S_p S) (S_n S) y1), (upd (S_k S) (S_n S) y2), (upd (S_v S) (S_n S) y3), (upd (S_f S) (S_n S) y4), (upd (S_d S) (S_n S) q.1), (upd (S_u S) (S_n S) 0), (upd (S_y S) (S_n S) y5), (upd (S_t S) (S_n S) y6)) q o ro t fo k z) H := hP
                  have hD : va_D _ (wM am cI cZ N (((S_n S) + 1), (upd (S_p S) (S_n S) y1), (upd (S_k S) (S_n S) y2), (upd (S_v S) (S_n S) y3), (upd (S_f S) (S_n S) y4), (upd (S_d S) (S_n S) q.1), (upd (S_u S) (S_n S) 0), (upd (S_y S) (S_n S) y5), (upd (S_t S) (S_n S) y6)) q o ro t fo k z) := hD
                  refine lv_aload_n hx hb dX10_sign_201 rfl (lv_at hl 0 rfl) ?_
                  refine va_get (D := D) (ci := 10) (v := .int (nI ((S_n S) + 1))) (C := RX10) (T := TX10) (N := 41) hx hb hts hin10 hown hK.1 hP 0 rfl rfl 6 (by decide) (hts _ fl_X10_115) (fun _ h9 => h9) rfl dX10_sign_202 ?_
                  refine lv_iconst (v := 1) hx hb dX10_sign_205 (by decide) ?_
                  refine lv_isub hx hb dX10_sign_206 ?_
                  rw [nI_pred (S_n S)]
                  exact mu_iret (v := (nI (S_n S))) hx hb hr hlocks ((((S_n S) + 1), (upd (S_p S) (S_n S) y1), (upd (S_k S) (S_n S) y2), (upd (S_v S) (S_n S) y3), (upd (S_f S) (S_n S) y4), (upd (S_d S) (S_n S) q.1), (upd (S_u S) (S_n S) 0), (upd (S_y S) (S_n S) y5), (upd (S_t S) (S_n S) y6))) (by show (((nI (S_n S)) : Int32), (((S_n S) + 1), (upd (S_p S) (S_n S) y1), (upd (S_k S) (S_n S) y2), (upd (S_v S) (S_n S) y3), (upd (S_f S) (S_n S) y4), (upd (S_d S) (S_n S) q.1), (upd (S_u S) (S_n S) 0), (upd (S_y S) (S_n S) y5), (upd (S_t S) (S_n S) y6))) = mXsign N S q y1 y2 y3 y4 y5 y6; unfold mXsign; (first | rw [if_pos c_1] | rw [if_neg c_1] | skip); (first | rw [if_pos c_2n] | rw [if_neg c_2n] | skip); (first | rw [if_pos c_3] | rw [if_neg c_3] | skip); (first | rw [if_pos c_4n] | rw [if_neg c_4n] | skip); (first | rw [if_pos c_5n] | rw [if_neg c_5n] | skip); (first | rw [if_pos c_6] | rw [if_neg c_6] | skip); (first | rw [if_pos c_7] | rw [if_neg c_7] | skip); (first | rw [if_pos c_8] | rw [if_neg c_8] | skip); (try rfl)) (hP) hS dX10_sign_207
                · skip
                  refine lv_bipush (v := (-5)) hx hb dX10_sign_102 (by decide) ?_
                  exact mu_iret (v := (-5)) hx hb hr hlocks (S) (by show (((-5) : Int32), S) = mXsign N S q y1 y2 y3 y4 y5 y6; unfold mXsign; (first | rw [if_pos c_1] | rw [if_neg c_1] | skip); (first | rw [if_pos c_2n] | rw [if_neg c_2n] | skip); (first | rw [if_pos c_3] | rw [if_neg c_3] | skip); (first | rw [if_pos c_4n] | rw [if_neg c_4n] | skip); (first | rw [if_pos c_5n] | rw [if_neg c_5n] | skip); (first | rw [if_pos c_6] | rw [if_neg c_6] | skip); (first | rw [if_pos c_7] | rw [if_neg c_7] | skip); (first | rw [if_pos c_8] | rw [if_neg c_8] | skip); (try rfl)) (hP) hS dX10_sign_104
              · skip
                refine lv_bipush (v := (-3)) hx hb dX10_sign_90 (by decide) ?_
                exact mu_iret (v := (-3)) hx hb hr hlocks (S) (by show (((-3) : Int32), S) = mXsign N S q y1 y2 y3 y4 y5 y6; unfold mXsign; (first | rw [if_pos c_1] | rw [if_neg c_1] | skip); (first | rw [if_pos c_2n] | rw [if_neg c_2n] | skip); (first | rw [if_pos c_3] | rw [if_neg c_3] | skip); (first | rw [if_pos c_4n] | rw [if_neg c_4n] | skip); (first | rw [if_pos c_5n] | rw [if_neg c_5n] | skip); (first | rw [if_pos c_6] | rw [if_neg c_6] | skip); (first | rw [if_pos c_7] | rw [if_neg c_7] | skip); (try rfl)) (hP) hS dX10_sign_92
          · skip
            refine lv_iload_n hx hb dX10_sign_57 rfl (lv_at hl 3 rfl) ?_
            refine lv_iconst (v := 0) hx hb dX10_sign_58 (by decide) ?_
            refine lv_iconst (v := 5) hx hb dX10_sign_59 (by decide) ?_
            refine ro_S (As := [.int y3, .int 0, .int 5]) (rest := []) ⟨hx, hb, hml, hown, hts⟩ (c_X10_in l D cI cZ  y3 0 5) (cw_X10_90 hts rfl rfl ⟨Nat.le_of_ble_eq_true rfl, Nat.le_of_ble_eq_true rfl⟩) hK P_nil rfl hl.1 rfl (Nat.le_of_ble_eq_true rfl) dX10_sign_60 ⟨Nat.zero_le _, Nat.zero_le _⟩ ?_
            refine lv_if_eq (tgt := 90) hx hb dX10_sign_63 (by decide) (fun c_9 => ?_) (fun c_9 => ?_)
            · skip
              have c_9 := zb_eq0 c_9
              have c_9n : y2 = 3 ∧ ¬ (0 ≤ y3 ∧ y3 ≤ 5) := ⟨c_5, c_9⟩
              refine lv_bipush (v := (-3)) hx hb dX10_sign_90 (by decide) ?_
              exact mu_iret (v := (-3)) hx hb hr hlocks (S) (by show (((-3) : Int32), S) = mXsign N S q y1 y2 y3 y4 y5 y6; unfold mXsign; (first | rw [if_pos c_1] | rw [if_neg c_1] | skip); (first | rw [if_pos c_2n] | rw [if_neg c_2n] | skip); (first | rw [if_pos c_3] | rw [if_neg c_3] | skip); (first | rw [if_pos c_4n] | rw [if_neg c_4n] | skip); (first | rw [if_pos c_9n] | rw [if_neg c_9n] | skip); (try rfl)) (hP) hS dX10_sign_92
            · skip
              have c_9 := zb_ne0 c_9
              have c_9n : ¬ (y2 = 3 ∧ ¬ (0 ≤ y3 ∧ y3 ≤ 5)) := fun z9 => z9.2 c_9
              refine lv_iload hx hb dX10_sign_66 (lv_at hl 4 rfl) ?_
              refine lv_iconst (v := 1) hx hb dX10_sign_68 (by decide) ?_
              refine lv_bipush (v := 60) hx hb dX10_sign_69 (by decide) ?_
              refine ro_S (As := [.int y4, .int 1, .int 60]) (rest := []) ⟨hx, hb, hml, hown, hts⟩ (c_X10_in l D cI cZ  y4 1 60) (cw_X10_90 hts rfl rfl ⟨Nat.le_of_ble_eq_true rfl, Nat.le_of_ble_eq_true rfl⟩) hK P_nil rfl hl.1 rfl (Nat.le_of_ble_eq_true rfl) dX10_sign_71 ⟨Nat.zero_le _, Nat.zero_le _⟩ ?_
              refine lv_if_eq (tgt := 90) hx hb dX10_sign_74 (by decide) (fun c_10 => ?_) (fun c_10 => ?_)
              · skip
                have c_10 := zb_eq0 c_10
                refine lv_bipush (v := (-3)) hx hb dX10_sign_90 (by decide) ?_
                exact mu_iret (v := (-3)) hx hb hr hlocks (S) (by show (((-3) : Int32), S) = mXsign N S q y1 y2 y3 y4 y5 y6; unfold mXsign; (first | rw [if_pos c_1] | rw [if_neg c_1] | skip); (first | rw [if_pos c_2n] | rw [if_neg c_2n] | skip); (first | rw [if_pos c_3] | rw [if_neg c_3] | skip); (first | rw [if_pos c_4n] | rw [if_neg c_4n] | skip); (first | rw [if_pos c_9n] | rw [if_neg c_9n] | skip); (first | rw [if_pos c_10] | rw [if_neg c_10] | skip); (try rfl)) (hP) hS dX10_sign_92
              · skip
                have c_10 := zb_ne0 c_10
                refine lv_iload hx hb dX10_sign_77 (lv_at hl 5 rfl) ?_
                refine lv_aload_n hx hb dX10_sign_79 rfl (lv_at hl 0 rfl) ?_
                refine lv_iload_n hx hb dX10_sign_80 rfl (lv_at hl 1 rfl) ?_
                refine ro_V (As := [.int y1]) (rest := [.int y5]) ⟨hx, hb, hml, hown, hts⟩ (c_X10_pathsAt l D cI cZ am N hN16 S hS24 q o ho8 ro hr10 t ht6 fo hf5 k hk8 z y1) (cw_X10_118 hts rfl rfl ⟨Nat.le_of_ble_eq_true rfl, Nat.le_of_ble_eq_true rfl⟩) hK hP (ci := 10) rfl rfl rfl hl.1 rfl (Nat.le_of_ble_eq_true rfl) dX10_sign_81 ⟨Nat.zero_le _, Nat.zero_le _⟩ ?_
                refine lv_iconst (v := (-1)) hx hb dX10_sign_84 (by decide) ?_
                refine lv_ixor hx hb dX10_sign_85 ?_
                refine lv_iand hx hb dX10_sign_86 ?_
                refine lv_if_eq (tgt := 93) hx hb dX10_sign_87 (by decide) (fun c_11 => ?_) (fun c_11 => ?_)
                · skip
                  refine lv_aload_n hx hb dX10_sign_93 rfl (lv_at hl 0 rfl) ?_
                  refine va_get (D := D) (ci := 10) (v := .int (nI (S_n S))) (C := RX10) (T := TX10) (N := 41) hx hb hts hin10 hown hK.1 hP 0 rfl rfl 6 (by decide) (hts _ fl_X10_115) (fun _ h9 => h9) rfl dX10_sign_94 ?_
                  refine lv_bipush (v := 24) hx hb dX10_sign_97 (by decide) ?_
                  refine lv_icmp_ne (tgt := 105) hx hb dX10_sign_99 (by decide) (fun c_12 => ?_) (fun c_12 => ?_)
                  · skip
                    have hb9 : (S_n S) < 24 := by have h9 : (S_n S) ≠ 24 := fun q9 => c_12 (by rw [q9]; rfl); omega
                    refine lv_aload_n hx hb dX10_sign_105 rfl (lv_at hl 0 rfl) ?_
                    refine va_get (D := D) (ci := 10) (v := .ref (am 4)) (C := RX10) (T := TX10) (N := 41) hx hb hts hin10 hown hK.1 hP 0 rfl rfl 7 (by decide) (hts _ fl_X10_19) (fun _ h9 => h9) rfl dX10_sign_106 ?_
                    refine lv_aload_n hx hb dX10_sign_109 rfl (lv_at hl 0 rfl) ?_
                    refine va_get (D := D) (ci := 10) (v := .int (nI (S_n S))) (C := RX10) (T := TX10) (N := 41) hx hb hts hin10 hown hK.1 hP 0 rfl rfl 6 (by decide) (hts _ fl_X10_115) (fun _ h9 => h9) rfl dX10_sign_110 ?_
                    refine lv_iload_n hx hb dX10_sign_113 rfl (lv_at hl 1 rfl) ?_
                    refine z_iast hx hb hK.1 hP hD hS 4 0 rfl rfl (S_n S) rfl hb9 (by decide)  dX10_sign_114 (fun H locs hP hD hS => ?_)
                    have hP : va_P D vwCl (wM am cI cZ N ((S_n S), (upd (S_p S) (S_n S) y1), (S_k S), (S_v S), (S_f S), (S_d S), (S_u S), (S_y S), (S_t S)) q o ro t fo k z) H := hP
                    have hD : va_D _ (wM am cI cZ N ((S_n S), (upd (S_p S) (S_n S) y1), (S_k S), (S_v S), (S_f S), (S_d S), (S_u S), (S_y S), (S_t S)) q o ro t fo k z) := hD
                    refine lv_aload_n hx hb dX10_sign_115 rfl (lv_at hl 0 rfl) ?_
                    refine va_get (D := D) (ci := 10) (v := .ref (am 5)) (C := RX10) (T := TX10) (N := 41) hx hb hts hin10 hown hK.1 hP 0 rfl rfl 8 (by decide) (hts _ fl_X10_22) (fun _ h9 => h9) rfl dX10_sign_116 ?_
                    refine lv_aload_n hx hb dX10_sign_119 rfl (lv_at hl 0 rfl) ?_
                    refine va_get (D := D) (ci := 10) (v := .int (nI (S_n S))) (C := RX10) (T := TX10) (N := 41) hx hb hts hin10 hown hK.1 hP 0 rfl rfl 6 (by decide) (hts _ fl_X10_115) (fun _ h9 => h9) rfl dX10_sign_120 ?_
                    refine lv_iload_n hx hb dX10_sign_123 rfl (lv_at hl 2 rfl) ?_
                    refine z_iast hx hb hK.1 hP hD hS 5 0 rfl rfl (S_n S) rfl hb9 (by decide)  dX10_sign_124 (fun H locs hP hD hS => ?_)
                    have hP : va_P D vwCl (wM am cI cZ N ((S_n S), (upd (S_p S) (S_n S) y1), (upd (S_k S) (S_n S) y2), (S_v S), (S_f S), (S_d S), (S_u S), (S_y S), (S_t S)) q o ro t fo k z) H := hP
                    have hD : va_D _ (wM am cI cZ N ((S_n S), (upd (S_p S) (S_n S) y1), (upd (S_k S) (S_n S) y2), (S_v S), (S_f S), (S_d S), (S_u S), (S_y S), (S_t S)) q o ro t fo k z) := hD
                    refine lv_aload_n hx hb dX10_sign_125 rfl (lv_at hl 0 rfl) ?_
                    refine va_get (D := D) (ci := 10) (v := .ref (am 6)) (C := RX10) (T := TX10) (N := 41) hx hb hts hin10 hown hK.1 hP 0 rfl rfl 9 (by decide) (hts _ fl_X10_25) (fun _ h9 => h9) rfl dX10_sign_126 ?_
                    refine lv_aload_n hx hb dX10_sign_129 rfl (lv_at hl 0 rfl) ?_
                    refine va_get (D := D) (ci := 10) (v := .int (nI (S_n S))) (C := RX10) (T := TX10) (N := 41) hx hb hts hin10 hown hK.1 hP 0 rfl rfl 6 (by decide) (hts _ fl_X10_115) (fun _ h9 => h9) rfl dX10_sign_130 ?_
                    refine lv_iload_n hx hb dX10_sign_133 rfl (lv_at hl 3 rfl) ?_
                    refine z_iast hx hb hK.1 hP hD hS 6 0 rfl rfl (S_n S) rfl hb9 (by decide)  dX10_sign_134 (fun H locs hP hD hS => ?_)
                    have hP : va_P D vwCl (wM am cI cZ N ((S_n S), (upd (S_p S) (S_n S) y1), (upd (S_k S) (S_n S) y2), (upd (S_v S) (S_n S) y3), (S_f S), (S_d S), (S_u S), (S_y S), (S_t S)) q o ro t fo k z) H := hP
                    have hD : va_D _ (wM am cI cZ N ((S_n S), (upd (S_p S) (S_n S) y1), (upd (S_k S) (S_n S) y2), (upd (S_v S) (S_n S) y3), (S_f S), (S_d S), (S_u S), (S_y S), (S_t S)) q o ro t fo k z) := hD
                    refine lv_aload_n hx hb dX10_sign_135 rfl (lv_at hl 0 rfl) ?_
                    refine va_get (D := D) (ci := 10) (v := .ref (am 7)) (C := RX10) (T := TX10) (N := 41) hx hb hts hin10 hown hK.1 hP 0 rfl rfl 10 (by decide) (hts _ fl_X10_28) (fun _ h9 => h9) rfl dX10_sign_136 ?_
                    refine lv_aload_n hx hb dX10_sign_139 rfl (lv_at hl 0 rfl) ?_
                    refine va_get (D := D) (ci := 10) (v := .int (nI (S_n S))) (C := RX10) (T := TX10) (N := 41) hx hb hts hin10 hown hK.1 hP 0 rfl rfl 6 (by decide) (hts _ fl_X10_115) (fun _ h9 => h9) rfl dX10_sign_140 ?_
                    refine lv_iload hx hb dX10_sign_143 (lv_at hl 4 rfl) ?_
                    refine z_iast hx hb hK.1 hP hD hS 7 0 rfl rfl (S_n S) rfl hb9 (by decide)  dX10_sign_145 (fun H locs hP hD hS => ?_)
                    have hP : va_P D vwCl (wM am cI cZ N ((S_n S), (upd (S_p S) (S_n S) y1), (upd (S_k S) (S_n S) y2), (upd (S_v S) (S_n S) y3), (upd (S_f S) (S_n S) y4), (S_d S), (S_u S), (S_y S), (S_t S)) q o ro t fo k z) H := hP
                    have hD : va_D _ (wM am cI cZ N ((S_n S), (upd (S_p S) (S_n S) y1), (upd (S_k S) (S_n S) y2), (upd (S_v S) (S_n S) y3), (upd (S_f S) (S_n S) y4), (S_d S), (S_u S), (S_y S), (S_t S)) q o ro t fo k z) := hD
                    refine lv_aload_n hx hb dX10_sign_146 rfl (lv_at hl 0 rfl) ?_
                    refine va_get (D := D) (ci := 10) (v := .ref (am 8)) (C := RX10) (T := TX10) (N := 41) hx hb hts hin10 hown hK.1 hP 0 rfl rfl 11 (by decide) (hts _ fl_X10_31) (fun _ h9 => h9) rfl dX10_sign_147 ?_
                    refine lv_aload_n hx hb dX10_sign_150 rfl (lv_at hl 0 rfl) ?_
                    refine va_get (D := D) (ci := 10) (v := .int (nI (S_n S))) (C := RX10) (T := TX10) (N := 41) hx hb hts hin10 hown hK.1 hP 0 rfl rfl 6 (by decide) (hts _ fl_X10_115) (fun _ h9 => h9) rfl dX10_sign_151 ?_
                    refine lv_aload_n hx hb dX10_sign_154 rfl (lv_at hl 0 rfl) ?_
                    refine va_get (D := D) (ci := 10) (v := .int q.1) (C := RX10) (T := TX10) (N := 41) hx hb hts hin10 hown hK.1 hP 0 rfl rfl 4 (by decide) (hts _ fl_X10_112) (fun _ h9 => h9) rfl dX10_sign_155 ?_
                    refine z_iast hx hb hK.1 hP hD hS 8 0 rfl rfl (S_n S) rfl hb9 (by decide)  dX10_sign_158 (fun H locs hP hD hS => ?_)
                    have hP : va_P D vwCl (wM am cI cZ N ((S_n S), (upd (S_p S) (S_n S) y1), (upd (S_k S) (S_n S) y2), (upd (S_v S) (S_n S) y3), (upd (S_f S) (S_n S) y4), (upd (S_d S) (S_n S) q.1), (S_u S), (S_y S), (S_t S)) q o ro t fo k z) H := hP
                    have hD : va_D _ (wM am cI cZ N ((S_n S), (upd (S_p S) (S_n S) y1), (upd (S_k S) (S_n S) y2), (upd (S_v S) (S_n S) y3), (upd (S_f S) (S_n S) y4), (upd (S_d S) (S_n S) q.1), (S_u S), (S_y S), (S_t S)) q o ro t fo k z) := hD
                    refine lv_aload_n hx hb dX10_sign_159 rfl (lv_at hl 0 rfl) ?_
                    refine va_get (D := D) (ci := 10) (v := .ref (am 9)) (C := RX10) (T := TX10) (N := 41) hx hb hts hin10 hown hK.1 hP 0 rfl rfl 12 (by decide) (hts _ fl_X10_34) (fun _ h9 => h9) rfl dX10_sign_160 ?_
                    refine lv_aload_n hx hb dX10_sign_163 rfl (lv_at hl 0 rfl) ?_
                    refine va_get (D := D) (ci := 10) (v := .int (nI (S_n S))) (C := RX10) (T := TX10) (N := 41) hx hb hts hin10 hown hK.1 hP 0 rfl rfl 6 (by decide) (hts _ fl_X10_115) (fun _ h9 => h9) rfl dX10_sign_164 ?_
                    refine lv_iload hx hb dX10_sign_167 (lv_at hl 5 rfl) ?_
                    refine z_iast hx hb hK.1 hP hD hS 9 0 rfl rfl (S_n S) rfl hb9 (by decide)  dX10_sign_169 (fun H locs hP hD hS => ?_)
                    have hP : va_P D vwCl (wM am cI cZ N ((S_n S), (upd (S_p S) (S_n S) y1), (upd (S_k S) (S_n S) y2), (upd (S_v S) (S_n S) y3), (upd (S_f S) (S_n S) y4), (upd (S_d S) (S_n S) q.1), (S_u S), (upd (S_y S) (S_n S) y5), (S_t S)) q o ro t fo k z) H := hP
                    have hD : va_D _ (wM am cI cZ N ((S_n S), (upd (S_p S) (S_n S) y1), (upd (S_k S) (S_n S) y2), (upd (S_v S) (S_n S) y3), (upd (S_f S) (S_n S) y4), (upd (S_d S) (S_n S) q.1), (S_u S), (upd (S_y S) (S_n S) y5), (S_t S)) q o ro t fo k z) := hD
                    refine lv_aload_n hx hb dX10_sign_170 rfl (lv_at hl 0 rfl) ?_
                    refine va_get (D := D) (ci := 10) (v := .ref (am 10)) (C := RX10) (T := TX10) (N := 41) hx hb hts hin10 hown hK.1 hP 0 rfl rfl 13 (by decide) (hts _ fl_X10_37) (fun _ h9 => h9) rfl dX10_sign_171 ?_
                    refine lv_aload_n hx hb dX10_sign_174 rfl (lv_at hl 0 rfl) ?_
                    refine va_get (D := D) (ci := 10) (v := .int (nI (S_n S))) (C := RX10) (T := TX10) (N := 41) hx hb hts hin10 hown hK.1 hP 0 rfl rfl 6 (by decide) (hts _ fl_X10_115) (fun _ h9 => h9) rfl dX10_sign_175 ?_
                    refine lv_iload hx hb dX10_sign_178 (lv_at hl 6 rfl) ?_
                    refine z_zast hx hb hK.1 hP hD hS 10 1 rfl rfl (S_n S) rfl hb9 (by decide) (by rcases hy with h9 | h9 <;> rw [h9] <;> rfl) dX10_sign_180 (fun H locs hP hD hS => ?_)
                    have hP : va_P D vwCl (wM am cI cZ N ((S_n S), (upd (S_p S) (S_n S) y1), (upd (S_k S) (S_n S) y2), (upd (S_v S) (S_n S) y3), (upd (S_f S) (S_n S) y4), (upd (S_d S) (S_n S) q.1), (S_u S), (upd (S_y S) (S_n S) y5), (upd (S_t S) (S_n S) y6)) q o ro t fo k z) H := hP
                    have hD : va_D _ (wM am cI cZ N ((S_n S), (upd (S_p S) (S_n S) y1), (upd (S_k S) (S_n S) y2), (upd (S_v S) (S_n S) y3), (upd (S_f S) (S_n S) y4), (upd (S_d S) (S_n S) q.1), (S_u S), (upd (S_y S) (S_n S) y5), (upd (S_t S) (S_n S) y6)) q o ro t fo k z) := hD
                    refine lv_aload_n hx hb dX10_sign_181 rfl (lv_at hl 0 rfl) ?_
                    refine va_get (D := D) (ci := 10) (v := .ref (am 11)) (C := RX10) (T := TX10) (N := 41) hx hb hts hin10 hown hK.1 hP 0 rfl rfl 14 (by decide) (hts _ fl_X10_41) (fun _ h9 => h9) rfl dX10_sign_182 ?_
                    refine lv_aload_n hx hb dX10_sign_185 rfl (lv_at hl 0 rfl) ?_
                    refine va_get (D := D) (ci := 10) (v := .int (nI (S_n S))) (C := RX10) (T := TX10) (N := 41) hx hb hts hin10 hown hK.1 hP 0 rfl rfl 6 (by decide) (hts _ fl_X10_115) (fun _ h9 => h9) rfl dX10_sign_186 ?_
                    refine lv_iconst (v := 0) hx hb dX10_sign_189 (by decide) ?_
                    refine z_zast hx hb hK.1 hP hD hS 11 1 rfl rfl (S_n S) rfl hb9 (by decide) rfl dX10_sign_190 (fun H locs hP hD hS => ?_)
                    have hP : va_P D vwCl (wM am cI cZ N ((S_n S), (upd (S_p S) (S_n S) y1), (upd (S_k S) (S_n S) y2), (upd (S_v S) (S_n S) y3), (upd (S_f S) (S_n S) y4), (upd (S_d S) (S_n S) q.1), (upd (S_u S) (S_n S) 0), (upd (S_y S) (S_n S) y5), (upd (S_t S) (S_n S) y6)) q o ro t fo k z) H := hP
                    have hD : va_D _ (wM am cI cZ N ((S_n S), (upd (S_p S) (S_n S) y1), (upd (S_k S) (S_n S) y2), (upd (S_v S) (S_n S) y3), (upd (S_f S) (S_n S) y4), (upd (S_d S) (S_n S) q.1), (upd (S_u S) (S_n S) 0), (upd (S_y S) (S_n S) y5), (upd (S_t S) (S_n S) y6)) q o ro t fo k z) := hD
                    refine lv_aload_n hx hb dX10_sign_191 rfl (lv_at hl 0 rfl) ?_
                    refine lv_dup hx hb dX10_sign_192 rfl ?_
                    refine va_get (D := D) (ci := 10) (v := .int (nI (S_n S))) (C := RX10) (T := TX10) (N := 41) hx hb hts hin10 hown hK.1 hP 0 rfl rfl 6 (by decide) (hts _ fl_X10_115) (fun _ h9 => h9) rfl dX10_sign_193 ?_
                    refine lv_iconst (v := 1) hx hb dX10_sign_196 (by decide) ?_
                    refine lv_iadd hx hb dX10_sign_197 ?_
                    rw [nI_1 (S_n S)]
                    refine va_put (D := D) (ci := 10) (v := .int (nI ((S_n S) + 1))) (ty := .int) (C := RX10) (T := TX10) (N := 41) hx hb hts hin10 tyX10 tyX10_ok nmX10 hown hK.1 hP hD hS 0 rfl rfl 6 (by decide) (hts _ fl_X10_115) (fun _ h9 => h9) rfl (by decide +kernel) rfl rfl (Nat.le_of_ble_eq_true rfl) dX10_sign_198 (fun H locs hP hD hS => ?_)
                    have hP : va_P D vwCl (wM am cI cZ N (((S_n S) + 1), (upd (S_p S) (S_n S) y1), (upd (S_k S) (S_n S) y2), (upd (S_v S) (S_n S) y3), (upd (S_f S) (S_n S) y4), (upd (S_d S) (S_n S) q.1), (upd (S_u S) (S_n S) 0), (upd (S_y S) (S_n S) y5), (upd (S_t S) (S_n S) y6)) q o ro t fo k z) H := hP
                    have hD : va_D _ (wM am cI cZ N (((S_n S) + 1), (upd (S_p S) (S_n S) y1), (upd (S_k S) (S_n S) y2), (upd (S_v S) (S_n S) y3), (upd (S_f S) (S_n S) y4), (upd (S_d S) (S_n S) q.1), (upd (S_u S) (S_n S) 0), (upd (S_y S) (S_n S) y5), (upd (S_t S) (S_n S) y6)) q o ro t fo k z) := hD
                    refine lv_aload_n hx hb dX10_sign_201 rfl (lv_at hl 0 rfl) ?_
                    refine va_get (D := D) (ci := 10) (v := .int (nI ((S_n S) + 1))) (C := RX10) (T := TX10) (N := 41) hx hb hts hin10 hown hK.1 hP 0 rfl rfl 6 (by decide) (hts _ fl_X10_115) (fun _ h9 => h9) rfl dX10_sign_202 ?_
                    refine lv_iconst (v := 1) hx hb dX10_sign_205 (by decide) ?_
                    refine lv_isub hx hb dX10_sign_206 ?_
                    rw [nI_pred (S_n S)]
                    exact mu_iret (v := (nI (S_n S))) hx hb hr hlocks ((((S_n S) + 1), (upd (S_p S) (S_n S) y1), (upd (S_k S) (S_n S) y2), (upd (S_v S) (S_n S) y3), (upd (S_f S) (S_n S) y4), (upd (S_d S) (S_n S) q.1), (upd (S_u S) (S_n S) 0), (upd (S_y S) (S_n S) y5), (upd (S_t S) (S_n S) y6))) (by show (((nI (S_n S)) : Int32), (((S_n S) + 1), (upd (S_p S) (S_n S) y1), (upd (S_k S) (S_n S) y2), (upd (S_v S) (S_n S) y3), (upd (S_f S) (S_n S) y4), (upd (S_d S) (S_n S) q.1), (upd (S_u S) (S_n S) 0), (upd (S_y S) (S_n S) y5), (upd (S_t S) (S_n S) y6))) = mXsign N S q y1 y2 y3 y4 y5 y6; unfold mXsign; (first | rw [if_pos c_1] | rw [if_neg c_1] | skip); (first | rw [if_pos c_2n] | rw [if_neg c_2n] | skip); (first | rw [if_pos c_3] | rw [if_neg c_3] | skip); (first | rw [if_pos c_4n] | rw [if_neg c_4n] | skip); (first | rw [if_pos c_9n] | rw [if_neg c_9n] | skip); (first | rw [if_pos c_10] | rw [if_neg c_10] | skip); (first | rw [if_pos c_11] | rw [if_neg c_11] | skip); (first | rw [if_pos c_12] | rw [if_neg c_12] | skip); (try rfl)) (hP) hS dX10_sign_207
                  · skip
                    refine lv_bipush (v := (-5)) hx hb dX10_sign_102 (by decide) ?_
                    exact mu_iret (v := (-5)) hx hb hr hlocks (S) (by show (((-5) : Int32), S) = mXsign N S q y1 y2 y3 y4 y5 y6; unfold mXsign; (first | rw [if_pos c_1] | rw [if_neg c_1] | skip); (first | rw [if_pos c_2n] | rw [if_neg c_2n] | skip); (first | rw [if_pos c_3] | rw [if_neg c_3] | skip); (first | rw [if_pos c_4n] | rw [if_neg c_4n] | skip); (first | rw [if_pos c_9n] | rw [if_neg c_9n] | skip); (first | rw [if_pos c_10] | rw [if_neg c_10] | skip); (first | rw [if_pos c_11] | rw [if_neg c_11] | skip); (first | rw [if_pos c_12] | rw [if_neg c_12] | skip); (try rfl)) (hP) hS dX10_sign_104
                · skip
                  refine lv_bipush (v := (-3)) hx hb dX10_sign_90 (by decide) ?_
                  exact mu_iret (v := (-3)) hx hb hr hlocks (S) (by show (((-3) : Int32), S) = mXsign N S q y1 y2 y3 y4 y5 y6; unfold mXsign; (first | rw [if_pos c_1] | rw [if_neg c_1] | skip); (first | rw [if_pos c_2n] | rw [if_neg c_2n] | skip); (first | rw [if_pos c_3] | rw [if_neg c_3] | skip); (first | rw [if_pos c_4n] | rw [if_neg c_4n] | skip); (first | rw [if_pos c_9n] | rw [if_neg c_9n] | skip); (first | rw [if_pos c_10] | rw [if_neg c_10] | skip); (first | rw [if_pos c_11] | rw [if_neg c_11] | skip); (try rfl)) (hP) hS dX10_sign_92
        · skip
          refine lv_iload_n hx hb dX10_sign_42 rfl (lv_at hl 3 rfl) ?_
          refine lv_iconst (v := 0) hx hb dX10_sign_43 (by decide) ?_
          refine lv_bipush (v := 9) hx hb dX10_sign_44 (by decide) ?_
          refine ro_S (As := [.int y3, .int 0, .int 9]) (rest := []) ⟨hx, hb, hml, hown, hts⟩ (c_X10_in l D cI cZ  y3 0 9) (cw_X10_90 hts rfl rfl ⟨Nat.le_of_ble_eq_true rfl, Nat.le_of_ble_eq_true rfl⟩) hK P_nil rfl hl.1 rfl (Nat.le_of_ble_eq_true rfl) dX10_sign_46 ⟨Nat.zero_le _, Nat.zero_le _⟩ ?_
          refine lv_if_eq (tgt := 90) hx hb dX10_sign_49 (by decide) (fun c_13 => ?_) (fun c_13 => ?_)
          · skip
            have c_13 := zb_eq0 c_13
            have c_13n : y2 = 2 ∧ ¬ (0 ≤ y3 ∧ y3 ≤ 9) := ⟨c_4, c_13⟩
            refine lv_bipush (v := (-3)) hx hb dX10_sign_90 (by decide) ?_
            exact mu_iret (v := (-3)) hx hb hr hlocks (S) (by show (((-3) : Int32), S) = mXsign N S q y1 y2 y3 y4 y5 y6; unfold mXsign; (first | rw [if_pos c_1] | rw [if_neg c_1] | skip); (first | rw [if_pos c_2n] | rw [if_neg c_2n] | skip); (first | rw [if_pos c_3] | rw [if_neg c_3] | skip); (first | rw [if_pos c_13n] | rw [if_neg c_13n] | skip); (try rfl)) (hP) hS dX10_sign_92
          · skip
            have c_13 := zb_ne0 c_13
            have c_13n : ¬ (y2 = 2 ∧ ¬ (0 ≤ y3 ∧ y3 ≤ 9)) := fun z9 => z9.2 c_13
            refine lv_iload_n hx hb dX10_sign_52 rfl (lv_at hl 2 rfl) ?_
            refine lv_iconst (v := 3) hx hb dX10_sign_53 (by decide) ?_
            refine lv_icmp_ne (tgt := 66) hx hb dX10_sign_54 (by decide) (fun c_14 => ?_) (fun c_14 => ?_)
            · skip
              have c_14n : ¬ (y2 = 3 ∧ ¬ (0 ≤ y3 ∧ y3 ≤ 5)) := fun z9 => c_14 z9.1
              refine lv_iload hx hb dX10_sign_66 (lv_at hl 4 rfl) ?_
              refine lv_iconst (v := 1) hx hb dX10_sign_68 (by decide) ?_
              refine lv_bipush (v := 60) hx hb dX10_sign_69 (by decide) ?_
              refine ro_S (As := [.int y4, .int 1, .int 60]) (rest := []) ⟨hx, hb, hml, hown, hts⟩ (c_X10_in l D cI cZ  y4 1 60) (cw_X10_90 hts rfl rfl ⟨Nat.le_of_ble_eq_true rfl, Nat.le_of_ble_eq_true rfl⟩) hK P_nil rfl hl.1 rfl (Nat.le_of_ble_eq_true rfl) dX10_sign_71 ⟨Nat.zero_le _, Nat.zero_le _⟩ ?_
              refine lv_if_eq (tgt := 90) hx hb dX10_sign_74 (by decide) (fun c_15 => ?_) (fun c_15 => ?_)
              · skip
                have c_15 := zb_eq0 c_15
                refine lv_bipush (v := (-3)) hx hb dX10_sign_90 (by decide) ?_
                exact mu_iret (v := (-3)) hx hb hr hlocks (S) (by show (((-3) : Int32), S) = mXsign N S q y1 y2 y3 y4 y5 y6; unfold mXsign; (first | rw [if_pos c_1] | rw [if_neg c_1] | skip); (first | rw [if_pos c_2n] | rw [if_neg c_2n] | skip); (first | rw [if_pos c_3] | rw [if_neg c_3] | skip); (first | rw [if_pos c_13n] | rw [if_neg c_13n] | skip); (first | rw [if_pos c_14n] | rw [if_neg c_14n] | skip); (first | rw [if_pos c_15] | rw [if_neg c_15] | skip); (try rfl)) (hP) hS dX10_sign_92
              · skip
                have c_15 := zb_ne0 c_15
                refine lv_iload hx hb dX10_sign_77 (lv_at hl 5 rfl) ?_
                refine lv_aload_n hx hb dX10_sign_79 rfl (lv_at hl 0 rfl) ?_
                refine lv_iload_n hx hb dX10_sign_80 rfl (lv_at hl 1 rfl) ?_
                refine ro_V (As := [.int y1]) (rest := [.int y5]) ⟨hx, hb, hml, hown, hts⟩ (c_X10_pathsAt l D cI cZ am N hN16 S hS24 q o ho8 ro hr10 t ht6 fo hf5 k hk8 z y1) (cw_X10_118 hts rfl rfl ⟨Nat.le_of_ble_eq_true rfl, Nat.le_of_ble_eq_true rfl⟩) hK hP (ci := 10) rfl rfl rfl hl.1 rfl (Nat.le_of_ble_eq_true rfl) dX10_sign_81 ⟨Nat.zero_le _, Nat.zero_le _⟩ ?_
                refine lv_iconst (v := (-1)) hx hb dX10_sign_84 (by decide) ?_
                refine lv_ixor hx hb dX10_sign_85 ?_
                refine lv_iand hx hb dX10_sign_86 ?_
                refine lv_if_eq (tgt := 93) hx hb dX10_sign_87 (by decide) (fun c_16 => ?_) (fun c_16 => ?_)
                · skip
                  refine lv_aload_n hx hb dX10_sign_93 rfl (lv_at hl 0 rfl) ?_
                  refine va_get (D := D) (ci := 10) (v := .int (nI (S_n S))) (C := RX10) (T := TX10) (N := 41) hx hb hts hin10 hown hK.1 hP 0 rfl rfl 6 (by decide) (hts _ fl_X10_115) (fun _ h9 => h9) rfl dX10_sign_94 ?_
                  refine lv_bipush (v := 24) hx hb dX10_sign_97 (by decide) ?_
                  refine lv_icmp_ne (tgt := 105) hx hb dX10_sign_99 (by decide) (fun c_17 => ?_) (fun c_17 => ?_)
                  · skip
                    have hb9 : (S_n S) < 24 := by have h9 : (S_n S) ≠ 24 := fun q9 => c_17 (by rw [q9]; rfl); omega
                    refine lv_aload_n hx hb dX10_sign_105 rfl (lv_at hl 0 rfl) ?_
                    refine va_get (D := D) (ci := 10) (v := .ref (am 4)) (C := RX10) (T := TX10) (N := 41) hx hb hts hin10 hown hK.1 hP 0 rfl rfl 7 (by decide) (hts _ fl_X10_19) (fun _ h9 => h9) rfl dX10_sign_106 ?_
                    refine lv_aload_n hx hb dX10_sign_109 rfl (lv_at hl 0 rfl) ?_
                    refine va_get (D := D) (ci := 10) (v := .int (nI (S_n S))) (C := RX10) (T := TX10) (N := 41) hx hb hts hin10 hown hK.1 hP 0 rfl rfl 6 (by decide) (hts _ fl_X10_115) (fun _ h9 => h9) rfl dX10_sign_110 ?_
                    refine lv_iload_n hx hb dX10_sign_113 rfl (lv_at hl 1 rfl) ?_
                    refine z_iast hx hb hK.1 hP hD hS 4 0 rfl rfl (S_n S) rfl hb9 (by decide)  dX10_sign_114 (fun H locs hP hD hS => ?_)
                    have hP : va_P D vwCl (wM am cI cZ N ((S_n S), (upd (S_p S) (S_n S) y1), (S_k S), (S_v S), (S_f S), (S_d S), (S_u S), (S_y S), (S_t S)) q o ro t fo k z) H := hP
                    have hD : va_D _ (wM am cI cZ N ((S_n S), (upd (S_p S) (S_n S) y1), (S_k S), (S_v S), (S_f S), (S_d S), (S_u S), (S_y S), (S_t S)) q o ro t fo k z) := hD
                    refine lv_aload_n hx hb dX10_sign_115 rfl (lv_at hl 0 rfl) ?_
                    refine va_get (D := D) (ci := 10) (v := .ref (am 5)) (C := RX10) (T := TX10) (N := 41) hx hb hts hin10 hown hK.1 hP 0 rfl rfl 8 (by decide) (hts _ fl_X10_22) (fun _ h9 => h9) rfl dX10_sign_116 ?_
                    refine lv_aload_n hx hb dX10_sign_119 rfl (lv_at hl 0 rfl) ?_
                    refine va_get (D := D) (ci := 10) (v := .int (nI (S_n S))) (C := RX10) (T := TX10) (N := 41) hx hb hts hin10 hown hK.1 hP 0 rfl rfl 6 (by decide) (hts _ fl_X10_115) (fun _ h9 => h9) rfl dX10_sign_120 ?_
                    refine lv_iload_n hx hb dX10_sign_123 rfl (lv_at hl 2 rfl) ?_
                    refine z_iast hx hb hK.1 hP hD hS 5 0 rfl rfl (S_n S) rfl hb9 (by decide)  dX10_sign_124 (fun H locs hP hD hS => ?_)
                    have hP : va_P D vwCl (wM am cI cZ N ((S_n S), (upd (S_p S) (S_n S) y1), (upd (S_k S) (S_n S) y2), (S_v S), (S_f S), (S_d S), (S_u S), (S_y S), (S_t S)) q o ro t fo k z) H := hP
                    have hD : va_D _ (wM am cI cZ N ((S_n S), (upd (S_p S) (S_n S) y1), (upd (S_k S) (S_n S) y2), (S_v S), (S_f S), (S_d S), (S_u S), (S_y S), (S_t S)) q o ro t fo k z) := hD
                    refine lv_aload_n hx hb dX10_sign_125 rfl (lv_at hl 0 rfl) ?_
                    refine va_get (D := D) (ci := 10) (v := .ref (am 6)) (C := RX10) (T := TX10) (N := 41) hx hb hts hin10 hown hK.1 hP 0 rfl rfl 9 (by decide) (hts _ fl_X10_25) (fun _ h9 => h9) rfl dX10_sign_126 ?_
                    refine lv_aload_n hx hb dX10_sign_129 rfl (lv_at hl 0 rfl) ?_
                    refine va_get (D := D) (ci := 10) (v := .int (nI (S_n S))) (C := RX10) (T := TX10) (N := 41) hx hb hts hin10 hown hK.1 hP 0 rfl rfl 6 (by decide) (hts _ fl_X10_115) (fun _ h9 => h9) rfl dX10_sign_130 ?_
                    refine lv_iload_n hx hb dX10_sign_133 rfl (lv_at hl 3 rfl) ?_
                    refine z_iast hx hb hK.1 hP hD hS 6 0 rfl rfl (S_n S) rfl hb9 (by decide)  dX10_sign_134 (fun H locs hP hD hS => ?_)
                    have hP : va_P D vwCl (wM am cI cZ N ((S_n S), (upd (S_p S) (S_n S) y1), (upd (S_k S) (S_n S) y2), (upd (S_v S) (S_n S) y3), (S_f S), (S_d S), (S_u S), (S_y S), (S_t S)) q o ro t fo k z) H := hP
                    have hD : va_D _ (wM am cI cZ N ((S_n S), (upd (S_p S) (S_n S) y1), (upd (S_k S) (S_n S) y2), (upd (S_v S) (S_n S) y3), (S_f S), (S_d S), (S_u S), (S_y S), (S_t S)) q o ro t fo k z) := hD
                    refine lv_aload_n hx hb dX10_sign_135 rfl (lv_at hl 0 rfl) ?_
                    refine va_get (D := D) (ci := 10) (v := .ref (am 7)) (C := RX10) (T := TX10) (N := 41) hx hb hts hin10 hown hK.1 hP 0 rfl rfl 10 (by decide) (hts _ fl_X10_28) (fun _ h9 => h9) rfl dX10_sign_136 ?_
                    refine lv_aload_n hx hb dX10_sign_139 rfl (lv_at hl 0 rfl) ?_
                    refine va_get (D := D) (ci := 10) (v := .int (nI (S_n S))) (C := RX10) (T := TX10) (N := 41) hx hb hts hin10 hown hK.1 hP 0 rfl rfl 6 (by decide) (hts _ fl_X10_115) (fun _ h9 => h9) rfl dX10_sign_140 ?_
                    refine lv_iload hx hb dX10_sign_143 (lv_at hl 4 rfl) ?_
                    refine z_iast hx hb hK.1 hP hD hS 7 0 rfl rfl (S_n S) rfl hb9 (by decide)  dX10_sign_145 (fun H locs hP hD hS => ?_)
                    have hP : va_P D vwCl (wM am cI cZ N ((S_n S), (upd (S_p S) (S_n S) y1), (upd (S_k S) (S_n S) y2), (upd (S_v S) (S_n S) y3), (upd (S_f S) (S_n S) y4), (S_d S), (S_u S), (S_y S), (S_t S)) q o ro t fo k z) H := hP
                    have hD : va_D _ (wM am cI cZ N ((S_n S), (upd (S_p S) (S_n S) y1), (upd (S_k S) (S_n S) y2), (upd (S_v S) (S_n S) y3), (upd (S_f S) (S_n S) y4), (S_d S), (S_u S), (S_y S), (S_t S)) q o ro t fo k z) := hD
                    refine lv_aload_n hx hb dX10_sign_146 rfl (lv_at hl 0 rfl) ?_
                    refine va_get (D := D) (ci := 10) (v := .ref (am 8)) (C := RX10) (T := TX10) (N := 41) hx hb hts hin10 hown hK.1 hP 0 rfl rfl 11 (by decide) (hts _ fl_X10_31) (fun _ h9 => h9) rfl dX10_sign_147 ?_
                    refine lv_aload_n hx hb dX10_sign_150 rfl (lv_at hl 0 rfl) ?_
                    refine va_get (D := D) (ci := 10) (v := .int (nI (S_n S))) (C := RX10) (T := TX10) (N := 41) hx hb hts hin10 hown hK.1 hP 0 rfl rfl 6 (by decide) (hts _ fl_X10_115) (fun _ h9 => h9) rfl dX10_sign_151 ?_
                    refine lv_aload_n hx hb dX10_sign_154 rfl (lv_at hl 0 rfl) ?_
                    refine va_get (D := D) (ci := 10) (v := .int q.1) (C := RX10) (T := TX10) (N := 41) hx hb hts hin10 hown hK.1 hP 0 rfl rfl 4 (by decide) (hts _ fl_X10_112) (fun _ h9 => h9) rfl dX10_sign_155 ?_
                    refine z_iast hx hb hK.1 hP hD hS 8 0 rfl rfl (S_n S) rfl hb9 (by decide)  dX10_sign_158 (fun H locs hP hD hS => ?_)
                    have hP : va_P D vwCl (wM am cI cZ N ((S_n S), (upd (S_p S) (S_n S) y1), (upd (S_k S) (S_n S) y2), (upd (S_v S) (S_n S) y3), (upd (S_f S) (S_n S) y4), (upd (S_d S) (S_n S) q.1), (S_u S), (S_y S), (S_t S)) q o ro t fo k z) H := hP
                    have hD : va_D _ (wM am cI cZ N ((S_n S), (upd (S_p S) (S_n S) y1), (upd (S_k S) (S_n S) y2), (upd (S_v S) (S_n S) y3), (upd (S_f S) (S_n S) y4), (upd (S_d S) (S_n S) q.1), (S_u S), (S_y S), (S_t S)) q o ro t fo k z) := hD
                    refine lv_aload_n hx hb dX10_sign_159 rfl (lv_at hl 0 rfl) ?_
                    refine va_get (D := D) (ci := 10) (v := .ref (am 9)) (C := RX10) (T := TX10) (N := 41) hx hb hts hin10 hown hK.1 hP 0 rfl rfl 12 (by decide) (hts _ fl_X10_34) (fun _ h9 => h9) rfl dX10_sign_160 ?_
                    refine lv_aload_n hx hb dX10_sign_163 rfl (lv_at hl 0 rfl) ?_
                    refine va_get (D := D) (ci := 10) (v := .int (nI (S_n S))) (C := RX10) (T := TX10) (N := 41) hx hb hts hin10 hown hK.1 hP 0 rfl rfl 6 (by decide) (hts _ fl_X10_115) (fun _ h9 => h9) rfl dX10_sign_164 ?_
                    refine lv_iload hx hb dX10_sign_167 (lv_at hl 5 rfl) ?_
                    refine z_iast hx hb hK.1 hP hD hS 9 0 rfl rfl (S_n S) rfl hb9 (by decide)  dX10_sign_169 (fun H locs hP hD hS => ?_)
                    have hP : va_P D vwCl (wM am cI cZ N ((S_n S), (upd (S_p S) (S_n S) y1), (upd (S_k S) (S_n S) y2), (upd (S_v S) (S_n S) y3), (upd (S_f S) (S_n S) y4), (upd (S_d S) (S_n S) q.1), (S_u S), (upd (S_y S) (S_n S) y5), (S_t S)) q o ro t fo k z) H := hP
                    have hD : va_D _ (wM am cI cZ N ((S_n S), (upd (S_p S) (S_n S) y1), (upd (S_k S) (S_n S) y2), (upd (S_v S) (S_n S) y3), (upd (S_f S) (S_n S) y4), (upd (S_d S) (S_n S) q.1), (S_u S), (upd (S_y S) (S_n S) y5), (S_t S)) q o ro t fo k z) := hD
                    refine lv_aload_n hx hb dX10_sign_170 rfl (lv_at hl 0 rfl) ?_
                    refine va_get (D := D) (ci := 10) (v := .ref (am 10)) (C := RX10) (T := TX10) (N := 41) hx hb hts hin10 hown hK.1 hP 0 rfl rfl 13 (by decide) (hts _ fl_X10_37) (fun _ h9 => h9) rfl dX10_sign_171 ?_
                    refine lv_aload_n hx hb dX10_sign_174 rfl (lv_at hl 0 rfl) ?_
                    refine va_get (D := D) (ci := 10) (v := .int (nI (S_n S))) (C := RX10) (T := TX10) (N := 41) hx hb hts hin10 hown hK.1 hP 0 rfl rfl 6 (by decide) (hts _ fl_X10_115) (fun _ h9 => h9) rfl dX10_sign_175 ?_
                    refine lv_iload hx hb dX10_sign_178 (lv_at hl 6 rfl) ?_
                    refine z_zast hx hb hK.1 hP hD hS 10 1 rfl rfl (S_n S) rfl hb9 (by decide) (by rcases hy with h9 | h9 <;> rw [h9] <;> rfl) dX10_sign_180 (fun H locs hP hD hS => ?_)
                    have hP : va_P D vwCl (wM am cI cZ N ((S_n S), (upd (S_p S) (S_n S) y1), (upd (S_k S) (S_n S) y2), (upd (S_v S) (S_n S) y3), (upd (S_f S) (S_n S) y4), (upd (S_d S) (S_n S) q.1), (S_u S), (upd (S_y S) (S_n S) y5), (upd (S_t S) (S_n S) y6)) q o ro t fo k z) H := hP
                    have hD : va_D _ (wM am cI cZ N ((S_n S), (upd (S_p S) (S_n S) y1), (upd (S_k S) (S_n S) y2), (upd (S_v S) (S_n S) y3), (upd (S_f S) (S_n S) y4), (upd (S_d S) (S_n S) q.1), (S_u S), (upd (S_y S) (S_n S) y5), (upd (S_t S) (S_n S) y6)) q o ro t fo k z) := hD
                    refine lv_aload_n hx hb dX10_sign_181 rfl (lv_at hl 0 rfl) ?_
                    refine va_get (D := D) (ci := 10) (v := .ref (am 11)) (C := RX10) (T := TX10) (N := 41) hx hb hts hin10 hown hK.1 hP 0 rfl rfl 14 (by decide) (hts _ fl_X10_41) (fun _ h9 => h9) rfl dX10_sign_182 ?_
                    refine lv_aload_n hx hb dX10_sign_185 rfl (lv_at hl 0 rfl) ?_
                    refine va_get (D := D) (ci := 10) (v := .int (nI (S_n S))) (C := RX10) (T := TX10) (N := 41) hx hb hts hin10 hown hK.1 hP 0 rfl rfl 6 (by decide) (hts _ fl_X10_115) (fun _ h9 => h9) rfl dX10_sign_186 ?_
                    refine lv_iconst (v := 0) hx hb dX10_sign_189 (by decide) ?_
                    refine z_zast hx hb hK.1 hP hD hS 11 1 rfl rfl (S_n S) rfl hb9 (by decide) rfl dX10_sign_190 (fun H locs hP hD hS => ?_)
                    have hP : va_P D vwCl (wM am cI cZ N ((S_n S), (upd (S_p S) (S_n S) y1), (upd (S_k S) (S_n S) y2), (upd (S_v S) (S_n S) y3), (upd (S_f S) (S_n S) y4), (upd (S_d S) (S_n S) q.1), (upd (S_u S) (S_n S) 0), (upd (S_y S) (S_n S) y5), (upd (S_t S) (S_n S) y6)) q o ro t fo k z) H := hP
                    have hD : va_D _ (wM am cI cZ N ((S_n S), (upd (S_p S) (S_n S) y1), (upd (S_k S) (S_n S) y2), (upd (S_v S) (S_n S) y3), (upd (S_f S) (S_n S) y4), (upd (S_d S) (S_n S) q.1), (upd (S_u S) (S_n S) 0), (upd (S_y S) (S_n S) y5), (upd (S_t S) (S_n S) y6)) q o ro t fo k z) := hD
                    refine lv_aload_n hx hb dX10_sign_191 rfl (lv_at hl 0 rfl) ?_
                    refine lv_dup hx hb dX10_sign_192 rfl ?_
                    refine va_get (D := D) (ci := 10) (v := .int (nI (S_n S))) (C := RX10) (T := TX10) (N := 41) hx hb hts hin10 hown hK.1 hP 0 rfl rfl 6 (by decide) (hts _ fl_X10_115) (fun _ h9 => h9) rfl dX10_sign_193 ?_
                    refine lv_iconst (v := 1) hx hb dX10_sign_196 (by decide) ?_
                    refine lv_iadd hx hb dX10_sign_197 ?_
                    rw [nI_1 (S_n S)]
                    refine va_put (D := D) (ci := 10) (v := .int (nI ((S_n S) + 1))) (ty := .int) (C := RX10) (T := TX10) (N := 41) hx hb hts hin10 tyX10 tyX10_ok nmX10 hown hK.1 hP hD hS 0 rfl rfl 6 (by decide) (hts _ fl_X10_115) (fun _ h9 => h9) rfl (by decide +kernel) rfl rfl (Nat.le_of_ble_eq_true rfl) dX10_sign_198 (fun H locs hP hD hS => ?_)
                    have hP : va_P D vwCl (wM am cI cZ N (((S_n S) + 1), (upd (S_p S) (S_n S) y1), (upd (S_k S) (S_n S) y2), (upd (S_v S) (S_n S) y3), (upd (S_f S) (S_n S) y4), (upd (S_d S) (S_n S) q.1), (upd (S_u S) (S_n S) 0), (upd (S_y S) (S_n S) y5), (upd (S_t S) (S_n S) y6)) q o ro t fo k z) H := hP
                    have hD : va_D _ (wM am cI cZ N (((S_n S) + 1), (upd (S_p S) (S_n S) y1), (upd (S_k S) (S_n S) y2), (upd (S_v S) (S_n S) y3), (upd (S_f S) (S_n S) y4), (upd (S_d S) (S_n S) q.1), (upd (S_u S) (S_n S) 0), (upd (S_y S) (S_n S) y5), (upd (S_t S) (S_n S) y6)) q o ro t fo k z) := hD
                    refine lv_aload_n hx hb dX10_sign_201 rfl (lv_at hl 0 rfl) ?_
                    refine va_get (D := D) (ci := 10) (v := .int (nI ((S_n S) + 1))) (C := RX10) (T := TX10) (N := 41) hx hb hts hin10 hown hK.1 hP 0 rfl rfl 6 (by decide) (hts _ fl_X10_115) (fun _ h9 => h9) rfl dX10_sign_202 ?_
                    refine lv_iconst (v := 1) hx hb dX10_sign_205 (by decide) ?_
                    refine lv_isub hx hb dX10_sign_206 ?_
                    rw [nI_pred (S_n S)]
                    exact mu_iret (v := (nI (S_n S))) hx hb hr hlocks ((((S_n S) + 1), (upd (S_p S) (S_n S) y1), (upd (S_k S) (S_n S) y2), (upd (S_v S) (S_n S) y3), (upd (S_f S) (S_n S) y4), (upd (S_d S) (S_n S) q.1), (upd (S_u S) (S_n S) 0), (upd (S_y S) (S_n S) y5), (upd (S_t S) (S_n S) y6))) (by show (((nI (S_n S)) : Int32), (((S_n S) + 1), (upd (S_p S) (S_n S) y1), (upd (S_k S) (S_n S) y2), (upd (S_v S) (S_n S) y3), (upd (S_f S) (S_n S) y4), (upd (S_d S) (S_n S) q.1), (upd (S_u S) (S_n S) 0), (upd (S_y S) (S_n S) y5), (upd (S_t S) (S_n S) y6))) = mXsign N S q y1 y2 y3 y4 y5 y6; unfold mXsign; (first | rw [if_pos c_1] | rw [if_neg c_1] | skip); (first | rw [if_pos c_2n] | rw [if_neg c_2n] | skip); (first | rw [if_pos c_3] | rw [if_neg c_3] | skip); (first | rw [if_pos c_13n] | rw [if_neg c_13n] | skip); (first | rw [if_pos c_14n] | rw [if_neg c_14n] | skip); (first | rw [if_pos c_15] | rw [if_neg c_15] | skip); (first | rw [if_pos c_16] | rw [if_neg c_16] | skip); (first | rw [if_pos c_17] | rw [if_neg c_17] | skip); (try rfl)) (hP) hS dX10_sign_207
                  · skip
                    refine lv_bipush (v := (-5)) hx hb dX10_sign_102 (by decide) ?_
                    exact mu_iret (v := (-5)) hx hb hr hlocks (S) (by show (((-5) : Int32), S) = mXsign N S q y1 y2 y3 y4 y5 y6; unfold mXsign; (first | rw [if_pos c_1] | rw [if_neg c_1] | skip); (first | rw [if_pos c_2n] | rw [if_neg c_2n] | skip); (first | rw [if_pos c_3] | rw [if_neg c_3] | skip); (first | rw [if_pos c_13n] | rw [if_neg c_13n] | skip); (first | rw [if_pos c_14n] | rw [if_neg c_14n] | skip); (first | rw [if_pos c_15] | rw [if_neg c_15] | skip); (first | rw [if_pos c_16] | rw [if_neg c_16] | skip); (first | rw [if_pos c_17] | rw [if_neg c_17] | skip); (try rfl)) (hP) hS dX10_sign_104
                · skip
                  refine lv_bipush (v := (-3)) hx hb dX10_sign_90 (by decide) ?_
                  exact mu_iret (v := (-3)) hx hb hr hlocks (S) (by show (((-3) : Int32), S) = mXsign N S q y1 y2 y3 y4 y5 y6; unfold mXsign; (first | rw [if_pos c_1] | rw [if_neg c_1] | skip); (first | rw [if_pos c_2n] | rw [if_neg c_2n] | skip); (first | rw [if_pos c_3] | rw [if_neg c_3] | skip); (first | rw [if_pos c_13n] | rw [if_neg c_13n] | skip); (first | rw [if_pos c_14n] | rw [if_neg c_14n] | skip); (first | rw [if_pos c_15] | rw [if_neg c_15] | skip); (first | rw [if_pos c_16] | rw [if_neg c_16] | skip); (try rfl)) (hP) hS dX10_sign_92
            · skip
              exact absurd (c_4.symm.trans c_14) (by decide)
    · skip
      have c_2 := zb_ne0 c_2
      refine lv_aload_n hx hb dX10_sign_16 rfl (lv_at hl 0 rfl) ?_
      refine lv_iload_n hx hb dX10_sign_17 rfl (lv_at hl 3 rfl) ?_
      refine lv_iload_n hx hb dX10_sign_18 rfl (lv_at hl 1 rfl) ?_
      refine ro_V (As := [.int y3, .int y1]) (rest := []) ⟨hx, hb, hml, hown, hts⟩ (c_X10_isAt l D cI cZ am N hN16 S hS24 q o ho8 ro hr10 t ht6 fo hf5 k hk8 z y3 y1) (cw_X10_97 hts rfl rfl ⟨Nat.le_of_ble_eq_true rfl, Nat.le_of_ble_eq_true rfl⟩) hK hP (ci := 10) rfl rfl rfl hl.1 rfl (Nat.le_of_ble_eq_true rfl) dX10_sign_19 ⟨Nat.zero_le _, Nat.zero_le _⟩ ?_
      refine lv_if_ne (tgt := 28) hx hb dX10_sign_22 (by decide) (fun c_18 => ?_) (fun c_18 => ?_)
      · skip
        have c_18 := zb_ne0 c_18
        have c_18n : ¬ ((0 ≤ y2 ∧ y2 ≤ 1) ∧ ¬ mAt N y3 y1 = true) := fun z9 => z9.2 c_18
        refine lv_iload_n hx hb dX10_sign_28 rfl (lv_at hl 2 rfl) ?_
        refine lv_iconst (v := 0) hx hb dX10_sign_29 (by decide) ?_
        refine lv_iconst (v := 3) hx hb dX10_sign_30 (by decide) ?_
        refine ro_S (As := [.int y2, .int 0, .int 3]) (rest := []) ⟨hx, hb, hml, hown, hts⟩ (c_X10_in l D cI cZ  y2 0 3) (cw_X10_90 hts rfl rfl ⟨Nat.le_of_ble_eq_true rfl, Nat.le_of_ble_eq_true rfl⟩) hK P_nil rfl hl.1 rfl (Nat.le_of_ble_eq_true rfl) dX10_sign_31 ⟨Nat.zero_le _, Nat.zero_le _⟩ ?_
        refine lv_if_eq (tgt := 90) hx hb dX10_sign_34 (by decide) (fun c_19 => ?_) (fun c_19 => ?_)
        · skip
          have c_19 := zb_eq0 c_19
          refine lv_bipush (v := (-3)) hx hb dX10_sign_90 (by decide) ?_
          exact mu_iret (v := (-3)) hx hb hr hlocks (S) (by show (((-3) : Int32), S) = mXsign N S q y1 y2 y3 y4 y5 y6; unfold mXsign; (first | rw [if_pos c_1] | rw [if_neg c_1] | skip); (first | rw [if_pos c_18n] | rw [if_neg c_18n] | skip); (first | rw [if_pos c_19] | rw [if_neg c_19] | skip); (try rfl)) (hP) hS dX10_sign_92
        · skip
          have c_19 := zb_ne0 c_19
          refine lv_iload_n hx hb dX10_sign_37 rfl (lv_at hl 2 rfl) ?_
          refine lv_iconst (v := 2) hx hb dX10_sign_38 (by decide) ?_
          refine lv_icmp_ne (tgt := 52) hx hb dX10_sign_39 (by decide) (fun c_20 => ?_) (fun c_20 => ?_)
          · skip
            have c_20n : ¬ (y2 = 2 ∧ ¬ (0 ≤ y3 ∧ y3 ≤ 9)) := fun z9 => c_20 z9.1
            refine lv_iload_n hx hb dX10_sign_52 rfl (lv_at hl 2 rfl) ?_
            refine lv_iconst (v := 3) hx hb dX10_sign_53 (by decide) ?_
            refine lv_icmp_ne (tgt := 66) hx hb dX10_sign_54 (by decide) (fun c_21 => ?_) (fun c_21 => ?_)
            · skip
              have c_21n : ¬ (y2 = 3 ∧ ¬ (0 ≤ y3 ∧ y3 ≤ 5)) := fun z9 => c_21 z9.1
              refine lv_iload hx hb dX10_sign_66 (lv_at hl 4 rfl) ?_
              refine lv_iconst (v := 1) hx hb dX10_sign_68 (by decide) ?_
              refine lv_bipush (v := 60) hx hb dX10_sign_69 (by decide) ?_
              refine ro_S (As := [.int y4, .int 1, .int 60]) (rest := []) ⟨hx, hb, hml, hown, hts⟩ (c_X10_in l D cI cZ  y4 1 60) (cw_X10_90 hts rfl rfl ⟨Nat.le_of_ble_eq_true rfl, Nat.le_of_ble_eq_true rfl⟩) hK P_nil rfl hl.1 rfl (Nat.le_of_ble_eq_true rfl) dX10_sign_71 ⟨Nat.zero_le _, Nat.zero_le _⟩ ?_
              refine lv_if_eq (tgt := 90) hx hb dX10_sign_74 (by decide) (fun c_22 => ?_) (fun c_22 => ?_)
              · skip
                have c_22 := zb_eq0 c_22
                refine lv_bipush (v := (-3)) hx hb dX10_sign_90 (by decide) ?_
                exact mu_iret (v := (-3)) hx hb hr hlocks (S) (by show (((-3) : Int32), S) = mXsign N S q y1 y2 y3 y4 y5 y6; unfold mXsign; (first | rw [if_pos c_1] | rw [if_neg c_1] | skip); (first | rw [if_pos c_18n] | rw [if_neg c_18n] | skip); (first | rw [if_pos c_19] | rw [if_neg c_19] | skip); (first | rw [if_pos c_20n] | rw [if_neg c_20n] | skip); (first | rw [if_pos c_21n] | rw [if_neg c_21n] | skip); (first | rw [if_pos c_22] | rw [if_neg c_22] | skip); (try rfl)) (hP) hS dX10_sign_92
              · skip
                have c_22 := zb_ne0 c_22
                refine lv_iload hx hb dX10_sign_77 (lv_at hl 5 rfl) ?_
                refine lv_aload_n hx hb dX10_sign_79 rfl (lv_at hl 0 rfl) ?_
                refine lv_iload_n hx hb dX10_sign_80 rfl (lv_at hl 1 rfl) ?_
                refine ro_V (As := [.int y1]) (rest := [.int y5]) ⟨hx, hb, hml, hown, hts⟩ (c_X10_pathsAt l D cI cZ am N hN16 S hS24 q o ho8 ro hr10 t ht6 fo hf5 k hk8 z y1) (cw_X10_118 hts rfl rfl ⟨Nat.le_of_ble_eq_true rfl, Nat.le_of_ble_eq_true rfl⟩) hK hP (ci := 10) rfl rfl rfl hl.1 rfl (Nat.le_of_ble_eq_true rfl) dX10_sign_81 ⟨Nat.zero_le _, Nat.zero_le _⟩ ?_
                refine lv_iconst (v := (-1)) hx hb dX10_sign_84 (by decide) ?_
                refine lv_ixor hx hb dX10_sign_85 ?_
                refine lv_iand hx hb dX10_sign_86 ?_
                refine lv_if_eq (tgt := 93) hx hb dX10_sign_87 (by decide) (fun c_23 => ?_) (fun c_23 => ?_)
                · skip
                  refine lv_aload_n hx hb dX10_sign_93 rfl (lv_at hl 0 rfl) ?_
                  refine va_get (D := D) (ci := 10) (v := .int (nI (S_n S))) (C := RX10) (T := TX10) (N := 41) hx hb hts hin10 hown hK.1 hP 0 rfl rfl 6 (by decide) (hts _ fl_X10_115) (fun _ h9 => h9) rfl dX10_sign_94 ?_
                  refine lv_bipush (v := 24) hx hb dX10_sign_97 (by decide) ?_
                  refine lv_icmp_ne (tgt := 105) hx hb dX10_sign_99 (by decide) (fun c_24 => ?_) (fun c_24 => ?_)
                  · skip
                    have hb9 : (S_n S) < 24 := by have h9 : (S_n S) ≠ 24 := fun q9 => c_24 (by rw [q9]; rfl); omega
                    refine lv_aload_n hx hb dX10_sign_105 rfl (lv_at hl 0 rfl) ?_
                    refine va_get (D := D) (ci := 10) (v := .ref (am 4)) (C := RX10) (T := TX10) (N := 41) hx hb hts hin10 hown hK.1 hP 0 rfl rfl 7 (by decide) (hts _ fl_X10_19) (fun _ h9 => h9) rfl dX10_sign_106 ?_
                    refine lv_aload_n hx hb dX10_sign_109 rfl (lv_at hl 0 rfl) ?_
                    refine va_get (D := D) (ci := 10) (v := .int (nI (S_n S))) (C := RX10) (T := TX10) (N := 41) hx hb hts hin10 hown hK.1 hP 0 rfl rfl 6 (by decide) (hts _ fl_X10_115) (fun _ h9 => h9) rfl dX10_sign_110 ?_
                    refine lv_iload_n hx hb dX10_sign_113 rfl (lv_at hl 1 rfl) ?_
                    refine z_iast hx hb hK.1 hP hD hS 4 0 rfl rfl (S_n S) rfl hb9 (by decide)  dX10_sign_114 (fun H locs hP hD hS => ?_)
                    have hP : va_P D vwCl (wM am cI cZ N ((S_n S), (upd (S_p S) (S_n S) y1), (S_k S), (S_v S), (S_f S), (S_d S), (S_u S), (S_y S), (S_t S)) q o ro t fo k z) H := hP
                    have hD : va_D _ (wM am cI cZ N ((S_n S), (upd (S_p S) (S_n S) y1), (S_k S), (S_v S), (S_f S), (S_d S), (S_u S), (S_y S), (S_t S)) q o ro t fo k z) := hD
                    refine lv_aload_n hx hb dX10_sign_115 rfl (lv_at hl 0 rfl) ?_
                    refine va_get (D := D) (ci := 10) (v := .ref (am 5)) (C := RX10) (T := TX10) (N := 41) hx hb hts hin10 hown hK.1 hP 0 rfl rfl 8 (by decide) (hts _ fl_X10_22) (fun _ h9 => h9) rfl dX10_sign_116 ?_
                    refine lv_aload_n hx hb dX10_sign_119 rfl (lv_at hl 0 rfl) ?_
                    refine va_get (D := D) (ci := 10) (v := .int (nI (S_n S))) (C := RX10) (T := TX10) (N := 41) hx hb hts hin10 hown hK.1 hP 0 rfl rfl 6 (by decide) (hts _ fl_X10_115) (fun _ h9 => h9) rfl dX10_sign_120 ?_
                    refine lv_iload_n hx hb dX10_sign_123 rfl (lv_at hl 2 rfl) ?_
                    refine z_iast hx hb hK.1 hP hD hS 5 0 rfl rfl (S_n S) rfl hb9 (by decide)  dX10_sign_124 (fun H locs hP hD hS => ?_)
                    have hP : va_P D vwCl (wM am cI cZ N ((S_n S), (upd (S_p S) (S_n S) y1), (upd (S_k S) (S_n S) y2), (S_v S), (S_f S), (S_d S), (S_u S), (S_y S), (S_t S)) q o ro t fo k z) H := hP
                    have hD : va_D _ (wM am cI cZ N ((S_n S), (upd (S_p S) (S_n S) y1), (upd (S_k S) (S_n S) y2), (S_v S), (S_f S), (S_d S), (S_u S), (S_y S), (S_t S)) q o ro t fo k z) := hD
                    refine lv_aload_n hx hb dX10_sign_125 rfl (lv_at hl 0 rfl) ?_
                    refine va_get (D := D) (ci := 10) (v := .ref (am 6)) (C := RX10) (T := TX10) (N := 41) hx hb hts hin10 hown hK.1 hP 0 rfl rfl 9 (by decide) (hts _ fl_X10_25) (fun _ h9 => h9) rfl dX10_sign_126 ?_
                    refine lv_aload_n hx hb dX10_sign_129 rfl (lv_at hl 0 rfl) ?_
                    refine va_get (D := D) (ci := 10) (v := .int (nI (S_n S))) (C := RX10) (T := TX10) (N := 41) hx hb hts hin10 hown hK.1 hP 0 rfl rfl 6 (by decide) (hts _ fl_X10_115) (fun _ h9 => h9) rfl dX10_sign_130 ?_
                    refine lv_iload_n hx hb dX10_sign_133 rfl (lv_at hl 3 rfl) ?_
                    refine z_iast hx hb hK.1 hP hD hS 6 0 rfl rfl (S_n S) rfl hb9 (by decide)  dX10_sign_134 (fun H locs hP hD hS => ?_)
                    have hP : va_P D vwCl (wM am cI cZ N ((S_n S), (upd (S_p S) (S_n S) y1), (upd (S_k S) (S_n S) y2), (upd (S_v S) (S_n S) y3), (S_f S), (S_d S), (S_u S), (S_y S), (S_t S)) q o ro t fo k z) H := hP
                    have hD : va_D _ (wM am cI cZ N ((S_n S), (upd (S_p S) (S_n S) y1), (upd (S_k S) (S_n S) y2), (upd (S_v S) (S_n S) y3), (S_f S), (S_d S), (S_u S), (S_y S), (S_t S)) q o ro t fo k z) := hD
                    refine lv_aload_n hx hb dX10_sign_135 rfl (lv_at hl 0 rfl) ?_
                    refine va_get (D := D) (ci := 10) (v := .ref (am 7)) (C := RX10) (T := TX10) (N := 41) hx hb hts hin10 hown hK.1 hP 0 rfl rfl 10 (by decide) (hts _ fl_X10_28) (fun _ h9 => h9) rfl dX10_sign_136 ?_
                    refine lv_aload_n hx hb dX10_sign_139 rfl (lv_at hl 0 rfl) ?_
                    refine va_get (D := D) (ci := 10) (v := .int (nI (S_n S))) (C := RX10) (T := TX10) (N := 41) hx hb hts hin10 hown hK.1 hP 0 rfl rfl 6 (by decide) (hts _ fl_X10_115) (fun _ h9 => h9) rfl dX10_sign_140 ?_
                    refine lv_iload hx hb dX10_sign_143 (lv_at hl 4 rfl) ?_
                    refine z_iast hx hb hK.1 hP hD hS 7 0 rfl rfl (S_n S) rfl hb9 (by decide)  dX10_sign_145 (fun H locs hP hD hS => ?_)
                    have hP : va_P D vwCl (wM am cI cZ N ((S_n S), (upd (S_p S) (S_n S) y1), (upd (S_k S) (S_n S) y2), (upd (S_v S) (S_n S) y3), (upd (S_f S) (S_n S) y4), (S_d S), (S_u S), (S_y S), (S_t S)) q o ro t fo k z) H := hP
                    have hD : va_D _ (wM am cI cZ N ((S_n S), (upd (S_p S) (S_n S) y1), (upd (S_k S) (S_n S) y2), (upd (S_v S) (S_n S) y3), (upd (S_f S) (S_n S) y4), (S_d S), (S_u S), (S_y S), (S_t S)) q o ro t fo k z) := hD
                    refine lv_aload_n hx hb dX10_sign_146 rfl (lv_at hl 0 rfl) ?_
                    refine va_get (D := D) (ci := 10) (v := .ref (am 8)) (C := RX10) (T := TX10) (N := 41) hx hb hts hin10 hown hK.1 hP 0 rfl rfl 11 (by decide) (hts _ fl_X10_31) (fun _ h9 => h9) rfl dX10_sign_147 ?_
                    refine lv_aload_n hx hb dX10_sign_150 rfl (lv_at hl 0 rfl) ?_
                    refine va_get (D := D) (ci := 10) (v := .int (nI (S_n S))) (C := RX10) (T := TX10) (N := 41) hx hb hts hin10 hown hK.1 hP 0 rfl rfl 6 (by decide) (hts _ fl_X10_115) (fun _ h9 => h9) rfl dX10_sign_151 ?_
                    refine lv_aload_n hx hb dX10_sign_154 rfl (lv_at hl 0 rfl) ?_
                    refine va_get (D := D) (ci := 10) (v := .int q.1) (C := RX10) (T := TX10) (N := 41) hx hb hts hin10 hown hK.1 hP 0 rfl rfl 4 (by decide) (hts _ fl_X10_112) (fun _ h9 => h9) rfl dX10_sign_155 ?_
                    refine z_iast hx hb hK.1 hP hD hS 8 0 rfl rfl (S_n S) rfl hb9 (by decide)  dX10_sign_158 (fun H locs hP hD hS => ?_)
                    have hP : va_P D vwCl (wM am cI cZ N ((S_n S), (upd (S_p S) (S_n S) y1), (upd (S_k S) (S_n S) y2), (upd (S_v S) (S_n S) y3), (upd (S_f S) (S_n S) y4), (upd (S_d S) (S_n S) q.1), (S_u S), (S_y S), (S_t S)) q o ro t fo k z) H := hP
                    have hD : va_D _ (wM am cI cZ N ((S_n S), (upd (S_p S) (S_n S) y1), (upd (S_k S) (S_n S) y2), (upd (S_v S) (S_n S) y3), (upd (S_f S) (S_n S) y4), (upd (S_d S) (S_n S) q.1), (S_u S), (S_y S), (S_t S)) q o ro t fo k z) := hD
                    refine lv_aload_n hx hb dX10_sign_159 rfl (lv_at hl 0 rfl) ?_
                    refine va_get (D := D) (ci := 10) (v := .ref (am 9)) (C := RX10) (T := TX10) (N := 41) hx hb hts hin10 hown hK.1 hP 0 rfl rfl 12 (by decide) (hts _ fl_X10_34) (fun _ h9 => h9) rfl dX10_sign_160 ?_
                    refine lv_aload_n hx hb dX10_sign_163 rfl (lv_at hl 0 rfl) ?_
                    refine va_get (D := D) (ci := 10) (v := .int (nI (S_n S))) (C := RX10) (T := TX10) (N := 41) hx hb hts hin10 hown hK.1 hP 0 rfl rfl 6 (by decide) (hts _ fl_X10_115) (fun _ h9 => h9) rfl dX10_sign_164 ?_
                    refine lv_iload hx hb dX10_sign_167 (lv_at hl 5 rfl) ?_
                    refine z_iast hx hb hK.1 hP hD hS 9 0 rfl rfl (S_n S) rfl hb9 (by decide)  dX10_sign_169 (fun H locs hP hD hS => ?_)
                    have hP : va_P D vwCl (wM am cI cZ N ((S_n S), (upd (S_p S) (S_n S) y1), (upd (S_k S) (S_n S) y2), (upd (S_v S) (S_n S) y3), (upd (S_f S) (S_n S) y4), (upd (S_d S) (S_n S) q.1), (S_u S), (upd (S_y S) (S_n S) y5), (S_t S)) q o ro t fo k z) H := hP
                    have hD : va_D _ (wM am cI cZ N ((S_n S), (upd (S_p S) (S_n S) y1), (upd (S_k S) (S_n S) y2), (upd (S_v S) (S_n S) y3), (upd (S_f S) (S_n S) y4), (upd (S_d S) (S_n S) q.1), (S_u S), (upd (S_y S) (S_n S) y5), (S_t S)) q o ro t fo k z) := hD
                    refine lv_aload_n hx hb dX10_sign_170 rfl (lv_at hl 0 rfl) ?_
                    refine va_get (D := D) (ci := 10) (v := .ref (am 10)) (C := RX10) (T := TX10) (N := 41) hx hb hts hin10 hown hK.1 hP 0 rfl rfl 13 (by decide) (hts _ fl_X10_37) (fun _ h9 => h9) rfl dX10_sign_171 ?_
                    refine lv_aload_n hx hb dX10_sign_174 rfl (lv_at hl 0 rfl) ?_
                    refine va_get (D := D) (ci := 10) (v := .int (nI (S_n S))) (C := RX10) (T := TX10) (N := 41) hx hb hts hin10 hown hK.1 hP 0 rfl rfl 6 (by decide) (hts _ fl_X10_115) (fun _ h9 => h9) rfl dX10_sign_175 ?_
                    refine lv_iload hx hb dX10_sign_178 (lv_at hl 6 rfl) ?_
                    refine z_zast hx hb hK.1 hP hD hS 10 1 rfl rfl (S_n S) rfl hb9 (by decide) (by rcases hy with h9 | h9 <;> rw [h9] <;> rfl) dX10_sign_180 (fun H locs hP hD hS => ?_)
                    have hP : va_P D vwCl (wM am cI cZ N ((S_n S), (upd (S_p S) (S_n S) y1), (upd (S_k S) (S_n S) y2), (upd (S_v S) (S_n S) y3), (upd (S_f S) (S_n S) y4), (upd (S_d S) (S_n S) q.1), (S_u S), (upd (S_y S) (S_n S) y5), (upd (S_t S) (S_n S) y6)) q o ro t fo k z) H := hP
                    have hD : va_D _ (wM am cI cZ N ((S_n S), (upd (S_p S) (S_n S) y1), (upd (S_k S) (S_n S) y2), (upd (S_v S) (S_n S) y3), (upd (S_f S) (S_n S) y4), (upd (S_d S) (S_n S) q.1), (S_u S), (upd (S_y S) (S_n S) y5), (upd (S_t S) (S_n S) y6)) q o ro t fo k z) := hD
                    refine lv_aload_n hx hb dX10_sign_181 rfl (lv_at hl 0 rfl) ?_
                    refine va_get (D := D) (ci := 10) (v := .ref (am 11)) (C := RX10) (T := TX10) (N := 41) hx hb hts hin10 hown hK.1 hP 0 rfl rfl 14 (by decide) (hts _ fl_X10_41) (fun _ h9 => h9) rfl dX10_sign_182 ?_
                    refine lv_aload_n hx hb dX10_sign_185 rfl (lv_at hl 0 rfl) ?_
                    refine va_get (D := D) (ci := 10) (v := .int (nI (S_n S))) (C := RX10) (T := TX10) (N := 41) hx hb hts hin10 hown hK.1 hP 0 rfl rfl 6 (by decide) (hts _ fl_X10_115) (fun _ h9 => h9) rfl dX10_sign_186 ?_
                    refine lv_iconst (v := 0) hx hb dX10_sign_189 (by decide) ?_
                    refine z_zast hx hb hK.1 hP hD hS 11 1 rfl rfl (S_n S) rfl hb9 (by decide) rfl dX10_sign_190 (fun H locs hP hD hS => ?_)
                    have hP : va_P D vwCl (wM am cI cZ N ((S_n S), (upd (S_p S) (S_n S) y1), (upd (S_k S) (S_n S) y2), (upd (S_v S) (S_n S) y3), (upd (S_f S) (S_n S) y4), (upd (S_d S) (S_n S) q.1), (upd (S_u S) (S_n S) 0), (upd (S_y S) (S_n S) y5), (upd (S_t S) (S_n S) y6)) q o ro t fo k z) H := hP
                    have hD : va_D _ (wM am cI cZ N ((S_n S), (upd (S_p S) (S_n S) y1), (upd (S_k S) (S_n S) y2), (upd (S_v S) (S_n S) y3), (upd (S_f S) (S_n S) y4), (upd (S_d S) (S_n S) q.1), (upd (S_u S) (S_n S) 0), (upd (S_y S) (S_n S) y5), (upd (S_t S) (S_n S) y6)) q o ro t fo k z) := hD
                    refine lv_aload_n hx hb dX10_sign_191 rfl (lv_at hl 0 rfl) ?_
                    refine lv_dup hx hb dX10_sign_192 rfl ?_
                    refine va_get (D := D) (ci := 10) (v := .int (nI (S_n S))) (C := RX10) (T := TX10) (N := 41) hx hb hts hin10 hown hK.1 hP 0 rfl rfl 6 (by decide) (hts _ fl_X10_115) (fun _ h9 => h9) rfl dX10_sign_193 ?_
                    refine lv_iconst (v := 1) hx hb dX10_sign_196 (by decide) ?_
                    refine lv_iadd hx hb dX10_sign_197 ?_
                    rw [nI_1 (S_n S)]
                    refine va_put (D := D) (ci := 10) (v := .int (nI ((S_n S) + 1))) (ty := .int) (C := RX10) (T := TX10) (N := 41) hx hb hts hin10 tyX10 tyX10_ok nmX10 hown hK.1 hP hD hS 0 rfl rfl 6 (by decide) (hts _ fl_X10_115) (fun _ h9 => h9) rfl (by decide +kernel) rfl rfl (Nat.le_of_ble_eq_true rfl) dX10_sign_198 (fun H locs hP hD hS => ?_)
                    have hP : va_P D vwCl (wM am cI cZ N (((S_n S) + 1), (upd (S_p S) (S_n S) y1), (upd (S_k S) (S_n S) y2), (upd (S_v S) (S_n S) y3), (upd (S_f S) (S_n S) y4), (upd (S_d S) (S_n S) q.1), (upd (S_u S) (S_n S) 0), (upd (S_y S) (S_n S) y5), (upd (S_t S) (S_n S) y6)) q o ro t fo k z) H := hP
                    have hD : va_D _ (wM am cI cZ N (((S_n S) + 1), (upd (S_p S) (S_n S) y1), (upd (S_k S) (S_n S) y2), (upd (S_v S) (S_n S) y3), (upd (S_f S) (S_n S) y4), (upd (S_d S) (S_n S) q.1), (upd (S_u S) (S_n S) 0), (upd (S_y S) (S_n S) y5), (upd (S_t S) (S_n S) y6)) q o ro t fo k z) := hD
                    refine lv_aload_n hx hb dX10_sign_201 rfl (lv_at hl 0 rfl) ?_
                    refine va_get (D := D) (ci := 10) (v := .int (nI ((S_n S) + 1))) (C := RX10) (T := TX10) (N := 41) hx hb hts hin10 hown hK.1 hP 0 rfl rfl 6 (by decide) (hts _ fl_X10_115) (fun _ h9 => h9) rfl dX10_sign_202 ?_
                    refine lv_iconst (v := 1) hx hb dX10_sign_205 (by decide) ?_
                    refine lv_isub hx hb dX10_sign_206 ?_
                    rw [nI_pred (S_n S)]
                    exact mu_iret (v := (nI (S_n S))) hx hb hr hlocks ((((S_n S) + 1), (upd (S_p S) (S_n S) y1), (upd (S_k S) (S_n S) y2), (upd (S_v S) (S_n S) y3), (upd (S_f S) (S_n S) y4), (upd (S_d S) (S_n S) q.1), (upd (S_u S) (S_n S) 0), (upd (S_y S) (S_n S) y5), (upd (S_t S) (S_n S) y6))) (by show (((nI (S_n S)) : Int32), (((S_n S) + 1), (upd (S_p S) (S_n S) y1), (upd (S_k S) (S_n S) y2), (upd (S_v S) (S_n S) y3), (upd (S_f S) (S_n S) y4), (upd (S_d S) (S_n S) q.1), (upd (S_u S) (S_n S) 0), (upd (S_y S) (S_n S) y5), (upd (S_t S) (S_n S) y6))) = mXsign N S q y1 y2 y3 y4 y5 y6; unfold mXsign; (first | rw [if_pos c_1] | rw [if_neg c_1] | skip); (first | rw [if_pos c_18n] | rw [if_neg c_18n] | skip); (first | rw [if_pos c_19] | rw [if_neg c_19] | skip); (first | rw [if_pos c_20n] | rw [if_neg c_20n] | skip); (first | rw [if_pos c_21n] | rw [if_neg c_21n] | skip); (first | rw [if_pos c_22] | rw [if_neg c_22] | skip); (first | rw [if_pos c_23] | rw [if_neg c_23] | skip); (first | rw [if_pos c_24] | rw [if_neg c_24] | skip); (try rfl)) (hP) hS dX10_sign_207
                  · skip
                    refine lv_bipush (v := (-5)) hx hb dX10_sign_102 (by decide) ?_
                    exact mu_iret (v := (-5)) hx hb hr hlocks (S) (by show (((-5) : Int32), S) = mXsign N S q y1 y2 y3 y4 y5 y6; unfold mXsign; (first | rw [if_pos c_1] | rw [if_neg c_1] | skip); (first | rw [if_pos c_18n] | rw [if_neg c_18n] | skip); (first | rw [if_pos c_19] | rw [if_neg c_19] | skip); (first | rw [if_pos c_20n] | rw [if_neg c_20n] | skip); (first | rw [if_pos c_21n] | rw [if_neg c_21n] | skip); (first | rw [if_pos c_22] | rw [if_neg c_22] | skip); (first | rw [if_pos c_23] | rw [if_neg c_23] | skip); (first | rw [if_pos c_24] | rw [if_neg c_24] | skip); (try rfl)) (hP) hS dX10_sign_104
                · skip
                  refine lv_bipush (v := (-3)) hx hb dX10_sign_90 (by decide) ?_
                  exact mu_iret (v := (-3)) hx hb hr hlocks (S) (by show (((-3) : Int32), S) = mXsign N S q y1 y2 y3 y4 y5 y6; unfold mXsign; (first | rw [if_pos c_1] | rw [if_neg c_1] | skip); (first | rw [if_pos c_18n] | rw [if_neg c_18n] | skip); (first | rw [if_pos c_19] | rw [if_neg c_19] | skip); (first | rw [if_pos c_20n] | rw [if_neg c_20n] | skip); (first | rw [if_pos c_21n] | rw [if_neg c_21n] | skip); (first | rw [if_pos c_22] | rw [if_neg c_22] | skip); (first | rw [if_pos c_23] | rw [if_neg c_23] | skip); (try rfl)) (hP) hS dX10_sign_92
            · skip
              refine lv_iload_n hx hb dX10_sign_57 rfl (lv_at hl 3 rfl) ?_
              refine lv_iconst (v := 0) hx hb dX10_sign_58 (by decide) ?_
              refine lv_iconst (v := 5) hx hb dX10_sign_59 (by decide) ?_
              refine ro_S (As := [.int y3, .int 0, .int 5]) (rest := []) ⟨hx, hb, hml, hown, hts⟩ (c_X10_in l D cI cZ  y3 0 5) (cw_X10_90 hts rfl rfl ⟨Nat.le_of_ble_eq_true rfl, Nat.le_of_ble_eq_true rfl⟩) hK P_nil rfl hl.1 rfl (Nat.le_of_ble_eq_true rfl) dX10_sign_60 ⟨Nat.zero_le _, Nat.zero_le _⟩ ?_
              refine lv_if_eq (tgt := 90) hx hb dX10_sign_63 (by decide) (fun c_25 => ?_) (fun c_25 => ?_)
              · skip
                have c_25 := zb_eq0 c_25
                have c_25n : y2 = 3 ∧ ¬ (0 ≤ y3 ∧ y3 ≤ 5) := ⟨c_21, c_25⟩
                refine lv_bipush (v := (-3)) hx hb dX10_sign_90 (by decide) ?_
                exact mu_iret (v := (-3)) hx hb hr hlocks (S) (by show (((-3) : Int32), S) = mXsign N S q y1 y2 y3 y4 y5 y6; unfold mXsign; (first | rw [if_pos c_1] | rw [if_neg c_1] | skip); (first | rw [if_pos c_18n] | rw [if_neg c_18n] | skip); (first | rw [if_pos c_19] | rw [if_neg c_19] | skip); (first | rw [if_pos c_20n] | rw [if_neg c_20n] | skip); (first | rw [if_pos c_25n] | rw [if_neg c_25n] | skip); (try rfl)) (hP) hS dX10_sign_92
              · skip
                have c_25 := zb_ne0 c_25
                have c_25n : ¬ (y2 = 3 ∧ ¬ (0 ≤ y3 ∧ y3 ≤ 5)) := fun z9 => z9.2 c_25
                refine lv_iload hx hb dX10_sign_66 (lv_at hl 4 rfl) ?_
                refine lv_iconst (v := 1) hx hb dX10_sign_68 (by decide) ?_
                refine lv_bipush (v := 60) hx hb dX10_sign_69 (by decide) ?_
                refine ro_S (As := [.int y4, .int 1, .int 60]) (rest := []) ⟨hx, hb, hml, hown, hts⟩ (c_X10_in l D cI cZ  y4 1 60) (cw_X10_90 hts rfl rfl ⟨Nat.le_of_ble_eq_true rfl, Nat.le_of_ble_eq_true rfl⟩) hK P_nil rfl hl.1 rfl (Nat.le_of_ble_eq_true rfl) dX10_sign_71 ⟨Nat.zero_le _, Nat.zero_le _⟩ ?_
                refine lv_if_eq (tgt := 90) hx hb dX10_sign_74 (by decide) (fun c_26 => ?_) (fun c_26 => ?_)
                · skip
                  have c_26 := zb_eq0 c_26
                  refine lv_bipush (v := (-3)) hx hb dX10_sign_90 (by decide) ?_
                  exact mu_iret (v := (-3)) hx hb hr hlocks (S) (by show (((-3) : Int32), S) = mXsign N S q y1 y2 y3 y4 y5 y6; unfold mXsign; (first | rw [if_pos c_1] | rw [if_neg c_1] | skip); (first | rw [if_pos c_18n] | rw [if_neg c_18n] | skip); (first | rw [if_pos c_19] | rw [if_neg c_19] | skip); (first | rw [if_pos c_20n] | rw [if_neg c_20n] | skip); (first | rw [if_pos c_25n] | rw [if_neg c_25n] | skip); (first | rw [if_pos c_26] | rw [if_neg c_26] | skip); (try rfl)) (hP) hS dX10_sign_92
                · skip
                  have c_26 := zb_ne0 c_26
                  refine lv_iload hx hb dX10_sign_77 (lv_at hl 5 rfl) ?_
                  refine lv_aload_n hx hb dX10_sign_79 rfl (lv_at hl 0 rfl) ?_
                  refine lv_iload_n hx hb dX10_sign_80 rfl (lv_at hl 1 rfl) ?_
                  refine ro_V (As := [.int y1]) (rest := [.int y5]) ⟨hx, hb, hml, hown, hts⟩ (c_X10_pathsAt l D cI cZ am N hN16 S hS24 q o ho8 ro hr10 t ht6 fo hf5 k hk8 z y1) (cw_X10_118 hts rfl rfl ⟨Nat.le_of_ble_eq_true rfl, Nat.le_of_ble_eq_true rfl⟩) hK hP (ci := 10) rfl rfl rfl hl.1 rfl (Nat.le_of_ble_eq_true rfl) dX10_sign_81 ⟨Nat.zero_le _, Nat.zero_le _⟩ ?_
                  refine lv_iconst (v := (-1)) hx hb dX10_sign_84 (by decide) ?_
                  refine lv_ixor hx hb dX10_sign_85 ?_
                  refine lv_iand hx hb dX10_sign_86 ?_
                  refine lv_if_eq (tgt := 93) hx hb dX10_sign_87 (by decide) (fun c_27 => ?_) (fun c_27 => ?_)
                  · skip
                    refine lv_aload_n hx hb dX10_sign_93 rfl (lv_at hl 0 rfl) ?_
                    refine va_get (D := D) (ci := 10) (v := .int (nI (S_n S))) (C := RX10) (T := TX10) (N := 41) hx hb hts hin10 hown hK.1 hP 0 rfl rfl 6 (by decide) (hts _ fl_X10_115) (fun _ h9 => h9) rfl dX10_sign_94 ?_
                    refine lv_bipush (v := 24) hx hb dX10_sign_97 (by decide) ?_
                    refine lv_icmp_ne (tgt := 105) hx hb dX10_sign_99 (by decide) (fun c_28 => ?_) (fun c_28 => ?_)
                    · skip
                      have hb9 : (S_n S) < 24 := by have h9 : (S_n S) ≠ 24 := fun q9 => c_28 (by rw [q9]; rfl); omega
                      refine lv_aload_n hx hb dX10_sign_105 rfl (lv_at hl 0 rfl) ?_
                      refine va_get (D := D) (ci := 10) (v := .ref (am 4)) (C := RX10) (T := TX10) (N := 41) hx hb hts hin10 hown hK.1 hP 0 rfl rfl 7 (by decide) (hts _ fl_X10_19) (fun _ h9 => h9) rfl dX10_sign_106 ?_
                      refine lv_aload_n hx hb dX10_sign_109 rfl (lv_at hl 0 rfl) ?_
                      refine va_get (D := D) (ci := 10) (v := .int (nI (S_n S))) (C := RX10) (T := TX10) (N := 41) hx hb hts hin10 hown hK.1 hP 0 rfl rfl 6 (by decide) (hts _ fl_X10_115) (fun _ h9 => h9) rfl dX10_sign_110 ?_
                      refine lv_iload_n hx hb dX10_sign_113 rfl (lv_at hl 1 rfl) ?_
                      refine z_iast hx hb hK.1 hP hD hS 4 0 rfl rfl (S_n S) rfl hb9 (by decide)  dX10_sign_114 (fun H locs hP hD hS => ?_)
                      have hP : va_P D vwCl (wM am cI cZ N ((S_n S), (upd (S_p S) (S_n S) y1), (S_k S), (S_v S), (S_f S), (S_d S), (S_u S), (S_y S), (S_t S)) q o ro t fo k z) H := hP
                      have hD : va_D _ (wM am cI cZ N ((S_n S), (upd (S_p S) (S_n S) y1), (S_k S), (S_v S), (S_f S), (S_d S), (S_u S), (S_y S), (S_t S)) q o ro t fo k z) := hD
                      refine lv_aload_n hx hb dX10_sign_115 rfl (lv_at hl 0 rfl) ?_
                      refine va_get (D := D) (ci := 10) (v := .ref (am 5)) (C := RX10) (T := TX10) (N := 41) hx hb hts hin10 hown hK.1 hP 0 rfl rfl 8 (by decide) (hts _ fl_X10_22) (fun _ h9 => h9) rfl dX10_sign_116 ?_
                      refine lv_aload_n hx hb dX10_sign_119 rfl (lv_at hl 0 rfl) ?_
                      refine va_get (D := D) (ci := 10) (v := .int (nI (S_n S))) (C := RX10) (T := TX10) (N := 41) hx hb hts hin10 hown hK.1 hP 0 rfl rfl 6 (by decide) (hts _ fl_X10_115) (fun _ h9 => h9) rfl dX10_sign_120 ?_
                      refine lv_iload_n hx hb dX10_sign_123 rfl (lv_at hl 2 rfl) ?_
                      refine z_iast hx hb hK.1 hP hD hS 5 0 rfl rfl (S_n S) rfl hb9 (by decide)  dX10_sign_124 (fun H locs hP hD hS => ?_)
                      have hP : va_P D vwCl (wM am cI cZ N ((S_n S), (upd (S_p S) (S_n S) y1), (upd (S_k S) (S_n S) y2), (S_v S), (S_f S), (S_d S), (S_u S), (S_y S), (S_t S)) q o ro t fo k z) H := hP
                      have hD : va_D _ (wM am cI cZ N ((S_n S), (upd (S_p S) (S_n S) y1), (upd (S_k S) (S_n S) y2), (S_v S), (S_f S), (S_d S), (S_u S), (S_y S), (S_t S)) q o ro t fo k z) := hD
                      refine lv_aload_n hx hb dX10_sign_125 rfl (lv_at hl 0 rfl) ?_
                      refine va_get (D := D) (ci := 10) (v := .ref (am 6)) (C := RX10) (T := TX10) (N := 41) hx hb hts hin10 hown hK.1 hP 0 rfl rfl 9 (by decide) (hts _ fl_X10_25) (fun _ h9 => h9) rfl dX10_sign_126 ?_
                      refine lv_aload_n hx hb dX10_sign_129 rfl (lv_at hl 0 rfl) ?_
                      refine va_get (D := D) (ci := 10) (v := .int (nI (S_n S))) (C := RX10) (T := TX10) (N := 41) hx hb hts hin10 hown hK.1 hP 0 rfl rfl 6 (by decide) (hts _ fl_X10_115) (fun _ h9 => h9) rfl dX10_sign_130 ?_
                      refine lv_iload_n hx hb dX10_sign_133 rfl (lv_at hl 3 rfl) ?_
                      refine z_iast hx hb hK.1 hP hD hS 6 0 rfl rfl (S_n S) rfl hb9 (by decide)  dX10_sign_134 (fun H locs hP hD hS => ?_)
                      have hP : va_P D vwCl (wM am cI cZ N ((S_n S), (upd (S_p S) (S_n S) y1), (upd (S_k S) (S_n S) y2), (upd (S_v S) (S_n S) y3), (S_f S), (S_d S), (S_u S), (S_y S), (S_t S)) q o ro t fo k z) H := hP
                      have hD : va_D _ (wM am cI cZ N ((S_n S), (upd (S_p S) (S_n S) y1), (upd (S_k S) (S_n S) y2), (upd (S_v S) (S_n S) y3), (S_f S), (S_d S), (S_u S), (S_y S), (S_t S)) q o ro t fo k z) := hD
                      refine lv_aload_n hx hb dX10_sign_135 rfl (lv_at hl 0 rfl) ?_
                      refine va_get (D := D) (ci := 10) (v := .ref (am 7)) (C := RX10) (T := TX10) (N := 41) hx hb hts hin10 hown hK.1 hP 0 rfl rfl 10 (by decide) (hts _ fl_X10_28) (fun _ h9 => h9) rfl dX10_sign_136 ?_
                      refine lv_aload_n hx hb dX10_sign_139 rfl (lv_at hl 0 rfl) ?_
                      refine va_get (D := D) (ci := 10) (v := .int (nI (S_n S))) (C := RX10) (T := TX10) (N := 41) hx hb hts hin10 hown hK.1 hP 0 rfl rfl 6 (by decide) (hts _ fl_X10_115) (fun _ h9 => h9) rfl dX10_sign_140 ?_
                      refine lv_iload hx hb dX10_sign_143 (lv_at hl 4 rfl) ?_
                      refine z_iast hx hb hK.1 hP hD hS 7 0 rfl rfl (S_n S) rfl hb9 (by decide)  dX10_sign_145 (fun H locs hP hD hS => ?_)
                      have hP : va_P D vwCl (wM am cI cZ N ((S_n S), (upd (S_p S) (S_n S) y1), (upd (S_k S) (S_n S) y2), (upd (S_v S) (S_n S) y3), (upd (S_f S) (S_n S) y4), (S_d S), (S_u S), (S_y S), (S_t S)) q o ro t fo k z) H := hP
                      have hD : va_D _ (wM am cI cZ N ((S_n S), (upd (S_p S) (S_n S) y1), (upd (S_k S) (S_n S) y2), (upd (S_v S) (S_n S) y3), (upd (S_f S) (S_n S) y4), (S_d S), (S_u S), (S_y S), (S_t S)) q o ro t fo k z) := hD
                      refine lv_aload_n hx hb dX10_sign_146 rfl (lv_at hl 0 rfl) ?_
                      refine va_get (D := D) (ci := 10) (v := .ref (am 8)) (C := RX10) (T := TX10) (N := 41) hx hb hts hin10 hown hK.1 hP 0 rfl rfl 11 (by decide) (hts _ fl_X10_31) (fun _ h9 => h9) rfl dX10_sign_147 ?_
                      refine lv_aload_n hx hb dX10_sign_150 rfl (lv_at hl 0 rfl) ?_
                      refine va_get (D := D) (ci := 10) (v := .int (nI (S_n S))) (C := RX10) (T := TX10) (N := 41) hx hb hts hin10 hown hK.1 hP 0 rfl rfl 6 (by decide) (hts _ fl_X10_115) (fun _ h9 => h9) rfl dX10_sign_151 ?_
                      refine lv_aload_n hx hb dX10_sign_154 rfl (lv_at hl 0 rfl) ?_
                      refine va_get (D := D) (ci := 10) (v := .int q.1) (C := RX10) (T := TX10) (N := 41) hx hb hts hin10 hown hK.1 hP 0 rfl rfl 4 (by decide) (hts _ fl_X10_112) (fun _ h9 => h9) rfl dX10_sign_155 ?_
                      refine z_iast hx hb hK.1 hP hD hS 8 0 rfl rfl (S_n S) rfl hb9 (by decide)  dX10_sign_158 (fun H locs hP hD hS => ?_)
                      have hP : va_P D vwCl (wM am cI cZ N ((S_n S), (upd (S_p S) (S_n S) y1), (upd (S_k S) (S_n S) y2), (upd (S_v S) (S_n S) y3), (upd (S_f S) (S_n S) y4), (upd (S_d S) (S_n S) q.1), (S_u S), (S_y S), (S_t S)) q o ro t fo k z) H := hP
                      have hD : va_D _ (wM am cI cZ N ((S_n S), (upd (S_p S) (S_n S) y1), (upd (S_k S) (S_n S) y2), (upd (S_v S) (S_n S) y3), (upd (S_f S) (S_n S) y4), (upd (S_d S) (S_n S) q.1), (S_u S), (S_y S), (S_t S)) q o ro t fo k z) := hD
                      refine lv_aload_n hx hb dX10_sign_159 rfl (lv_at hl 0 rfl) ?_
                      refine va_get (D := D) (ci := 10) (v := .ref (am 9)) (C := RX10) (T := TX10) (N := 41) hx hb hts hin10 hown hK.1 hP 0 rfl rfl 12 (by decide) (hts _ fl_X10_34) (fun _ h9 => h9) rfl dX10_sign_160 ?_
                      refine lv_aload_n hx hb dX10_sign_163 rfl (lv_at hl 0 rfl) ?_
                      refine va_get (D := D) (ci := 10) (v := .int (nI (S_n S))) (C := RX10) (T := TX10) (N := 41) hx hb hts hin10 hown hK.1 hP 0 rfl rfl 6 (by decide) (hts _ fl_X10_115) (fun _ h9 => h9) rfl dX10_sign_164 ?_
                      refine lv_iload hx hb dX10_sign_167 (lv_at hl 5 rfl) ?_
                      refine z_iast hx hb hK.1 hP hD hS 9 0 rfl rfl (S_n S) rfl hb9 (by decide)  dX10_sign_169 (fun H locs hP hD hS => ?_)
                      have hP : va_P D vwCl (wM am cI cZ N ((S_n S), (upd (S_p S) (S_n S) y1), (upd (S_k S) (S_n S) y2), (upd (S_v S) (S_n S) y3), (upd (S_f S) (S_n S) y4), (upd (S_d S) (S_n S) q.1), (S_u S), (upd (S_y S) (S_n S) y5), (S_t S)) q o ro t fo k z) H := hP
                      have hD : va_D _ (wM am cI cZ N ((S_n S), (upd (S_p S) (S_n S) y1), (upd (S_k S) (S_n S) y2), (upd (S_v S) (S_n S) y3), (upd (S_f S) (S_n S) y4), (upd (S_d S) (S_n S) q.1), (S_u S), (upd (S_y S) (S_n S) y5), (S_t S)) q o ro t fo k z) := hD
                      refine lv_aload_n hx hb dX10_sign_170 rfl (lv_at hl 0 rfl) ?_
                      refine va_get (D := D) (ci := 10) (v := .ref (am 10)) (C := RX10) (T := TX10) (N := 41) hx hb hts hin10 hown hK.1 hP 0 rfl rfl 13 (by decide) (hts _ fl_X10_37) (fun _ h9 => h9) rfl dX10_sign_171 ?_
                      refine lv_aload_n hx hb dX10_sign_174 rfl (lv_at hl 0 rfl) ?_
                      refine va_get (D := D) (ci := 10) (v := .int (nI (S_n S))) (C := RX10) (T := TX10) (N := 41) hx hb hts hin10 hown hK.1 hP 0 rfl rfl 6 (by decide) (hts _ fl_X10_115) (fun _ h9 => h9) rfl dX10_sign_175 ?_
                      refine lv_iload hx hb dX10_sign_178 (lv_at hl 6 rfl) ?_
                      refine z_zast hx hb hK.1 hP hD hS 10 1 rfl rfl (S_n S) rfl hb9 (by decide) (by rcases hy with h9 | h9 <;> rw [h9] <;> rfl) dX10_sign_180 (fun H locs hP hD hS => ?_)
                      have hP : va_P D vwCl (wM am cI cZ N ((S_n S), (upd (S_p S) (S_n S) y1), (upd (S_k S) (S_n S) y2), (upd (S_v S) (S_n S) y3), (upd (S_f S) (S_n S) y4), (upd (S_d S) (S_n S) q.1), (S_u S), (upd (S_y S) (S_n S) y5), (upd (S_t S) (S_n S) y6)) q o ro t fo k z) H := hP
                      have hD : va_D _ (wM am cI cZ N ((S_n S), (upd (S_p S) (S_n S) y1), (upd (S_k S) (S_n S) y2), (upd (S_v S) (S_n S) y3), (upd (S_f S) (S_n S) y4), (upd (S_d S) (S_n S) q.1), (S_u S), (upd (S_y S) (S_n S) y5), (upd (S_t S) (S_n S) y6)) q o ro t fo k z) := hD
                      refine lv_aload_n hx hb dX10_sign_181 rfl (lv_at hl 0 rfl) ?_
                      refine va_get (D := D) (ci := 10) (v := .ref (am 11)) (C := RX10) (T := TX10) (N := 41) hx hb hts hin10 hown hK.1 hP 0 rfl rfl 14 (by decide) (hts _ fl_X10_41) (fun _ h9 => h9) rfl dX10_sign_182 ?_
                      refine lv_aload_n hx hb dX10_sign_185 rfl (lv_at hl 0 rfl) ?_
                      refine va_get (D := D) (ci := 10) (v := .int (nI (S_n S))) (C := RX10) (T := TX10) (N := 41) hx hb hts hin10 hown hK.1 hP 0 rfl rfl 6 (by decide) (hts _ fl_X10_115) (fun _ h9 => h9) rfl dX10_sign_186 ?_
                      refine lv_iconst (v := 0) hx hb dX10_sign_189 (by decide) ?_
                      refine z_zast hx hb hK.1 hP hD hS 11 1 rfl rfl (S_n S) rfl hb9 (by decide) rfl dX10_sign_190 (fun H locs hP hD hS => ?_)
                      have hP : va_P D vwCl (wM am cI cZ N ((S_n S), (upd (S_p S) (S_n S) y1), (upd (S_k S) (S_n S) y2), (upd (S_v S) (S_n S) y3), (upd (S_f S) (S_n S) y4), (upd (S_d S) (S_n S) q.1), (upd (S_u S) (S_n S) 0), (upd (S_y S) (S_n S) y5), (upd (S_t S) (S_n S) y6)) q o ro t fo k z) H := hP
                      have hD : va_D _ (wM am cI cZ N ((S_n S), (upd (S_p S) (S_n S) y1), (upd (S_k S) (S_n S) y2), (upd (S_v S) (S_n S) y3), (upd (S_f S) (S_n S) y4), (upd (S_d S) (S_n S) q.1), (upd (S_u S) (S_n S) 0), (upd (S_y S) (S_n S) y5), (upd (S_t S) (S_n S) y6)) q o ro t fo k z) := hD
                      refine lv_aload_n hx hb dX10_sign_191 rfl (lv_at hl 0 rfl) ?_
                      refine lv_dup hx hb dX10_sign_192 rfl ?_
                      refine va_get (D := D) (ci := 10) (v := .int (nI (S_n S))) (C := RX10) (T := TX10) (N := 41) hx hb hts hin10 hown hK.1 hP 0 rfl rfl 6 (by decide) (hts _ fl_X10_115) (fun _ h9 => h9) rfl dX10_sign_193 ?_
                      refine lv_iconst (v := 1) hx hb dX10_sign_196 (by decide) ?_
                      refine lv_iadd hx hb dX10_sign_197 ?_
                      rw [nI_1 (S_n S)]
                      refine va_put (D := D) (ci := 10) (v := .int (nI ((S_n S) + 1))) (ty := .int) (C := RX10) (T := TX10) (N := 41) hx hb hts hin10 tyX10 tyX10_ok nmX10 hown hK.1 hP hD hS 0 rfl rfl 6 (by decide) (hts _ fl_X10_115) (fun _ h9 => h9) rfl (by decide +kernel) rfl rfl (Nat.le_of_ble_eq_true rfl) dX10_sign_198 (fun H locs hP hD hS => ?_)
                      have hP : va_P D vwCl (wM am cI cZ N (((S_n S) + 1), (upd (S_p S) (S_n S) y1), (upd (S_k S) (S_n S) y2), (upd (S_v S) (S_n S) y3), (upd (S_f S) (S_n S) y4), (upd (S_d S) (S_n S) q.1), (upd (S_u S) (S_n S) 0), (upd (S_y S) (S_n S) y5), (upd (S_t S) (S_n S) y6)) q o ro t fo k z) H := hP
                      have hD : va_D _ (wM am cI cZ N (((S_n S) + 1), (upd (S_p S) (S_n S) y1), (upd (S_k S) (S_n S) y2), (upd (S_v S) (S_n S) y3), (upd (S_f S) (S_n S) y4), (upd (S_d S) (S_n S) q.1), (upd (S_u S) (S_n S) 0), (upd (S_y S) (S_n S) y5), (upd (S_t S) (S_n S) y6)) q o ro t fo k z) := hD
                      refine lv_aload_n hx hb dX10_sign_201 rfl (lv_at hl 0 rfl) ?_
                      refine va_get (D := D) (ci := 10) (v := .int (nI ((S_n S) + 1))) (C := RX10) (T := TX10) (N := 41) hx hb hts hin10 hown hK.1 hP 0 rfl rfl 6 (by decide) (hts _ fl_X10_115) (fun _ h9 => h9) rfl dX10_sign_202 ?_
                      refine lv_iconst (v := 1) hx hb dX10_sign_205 (by decide) ?_
                      refine lv_isub hx hb dX10_sign_206 ?_
                      rw [nI_pred (S_n S)]
                      exact mu_iret (v := (nI (S_n S))) hx hb hr hlocks ((((S_n S) + 1), (upd (S_p S) (S_n S) y1), (upd (S_k S) (S_n S) y2), (upd (S_v S) (S_n S) y3), (upd (S_f S) (S_n S) y4), (upd (S_d S) (S_n S) q.1), (upd (S_u S) (S_n S) 0), (upd (S_y S) (S_n S) y5), (upd (S_t S) (S_n S) y6))) (by show (((nI (S_n S)) : Int32), (((S_n S) + 1), (upd (S_p S) (S_n S) y1), (upd (S_k S) (S_n S) y2), (upd (S_v S) (S_n S) y3), (upd (S_f S) (S_n S) y4), (upd (S_d S) (S_n S) q.1), (upd (S_u S) (S_n S) 0), (upd (S_y S) (S_n S) y5), (upd (S_t S) (S_n S) y6))) = mXsign N S q y1 y2 y3 y4 y5 y6; unfold mXsign; (first | rw [if_pos c_1] | rw [if_neg c_1] | skip); (first | rw [if_pos c_18n] | rw [if_neg c_18n] | skip); (first | rw [if_pos c_19] | rw [if_neg c_19] | skip); (first | rw [if_pos c_20n] | rw [if_neg c_20n] | skip); (first | rw [if_pos c_25n] | rw [if_neg c_25n] | skip); (first | rw [if_pos c_26] | rw [if_neg c_26] | skip); (first | rw [if_pos c_27] | rw [if_neg c_27] | skip); (first | rw [if_pos c_28] | rw [if_neg c_28] | skip); (try rfl)) (hP) hS dX10_sign_207
                    · skip
                      refine lv_bipush (v := (-5)) hx hb dX10_sign_102 (by decide) ?_
                      exact mu_iret (v := (-5)) hx hb hr hlocks (S) (by show (((-5) : Int32), S) = mXsign N S q y1 y2 y3 y4 y5 y6; unfold mXsign; (first | rw [if_pos c_1] | rw [if_neg c_1] | skip); (first | rw [if_pos c_18n] | rw [if_neg c_18n] | skip); (first | rw [if_pos c_19] | rw [if_neg c_19] | skip); (first | rw [if_pos c_20n] | rw [if_neg c_20n] | skip); (first | rw [if_pos c_25n] | rw [if_neg c_25n] | skip); (first | rw [if_pos c_26] | rw [if_neg c_26] | skip); (first | rw [if_pos c_27] | rw [if_neg c_27] | skip); (first | rw [if_pos c_28] | rw [if_neg c_28] | skip); (try rfl)) (hP) hS dX10_sign_104
                  · skip
                    refine lv_bipush (v := (-3)) hx hb dX10_sign_90 (by decide) ?_
                    exact mu_iret (v := (-3)) hx hb hr hlocks (S) (by show (((-3) : Int32), S) = mXsign N S q y1 y2 y3 y4 y5 y6; unfold mXsign; (first | rw [if_pos c_1] | rw [if_neg c_1] | skip); (first | rw [if_pos c_18n] | rw [if_neg c_18n] | skip); (first | rw [if_pos c_19] | rw [if_neg c_19] | skip); (first | rw [if_pos c_20n] | rw [if_neg c_20n] | skip); (first | rw [if_pos c_25n] | rw [if_neg c_25n] | skip); (first | rw [if_pos c_26] | rw [if_neg c_26] | skip); (first | rw [if_pos c_27] | rw [if_neg c_27] | skip); (try rfl)) (hP) hS dX10_sign_92
          · skip
            refine lv_iload_n hx hb dX10_sign_42 rfl (lv_at hl 3 rfl) ?_
            refine lv_iconst (v := 0) hx hb dX10_sign_43 (by decide) ?_
            refine lv_bipush (v := 9) hx hb dX10_sign_44 (by decide) ?_
            refine ro_S (As := [.int y3, .int 0, .int 9]) (rest := []) ⟨hx, hb, hml, hown, hts⟩ (c_X10_in l D cI cZ  y3 0 9) (cw_X10_90 hts rfl rfl ⟨Nat.le_of_ble_eq_true rfl, Nat.le_of_ble_eq_true rfl⟩) hK P_nil rfl hl.1 rfl (Nat.le_of_ble_eq_true rfl) dX10_sign_46 ⟨Nat.zero_le _, Nat.zero_le _⟩ ?_
            refine lv_if_eq (tgt := 90) hx hb dX10_sign_49 (by decide) (fun c_29 => ?_) (fun c_29 => ?_)
            · skip
              have c_29 := zb_eq0 c_29
              have c_29n : y2 = 2 ∧ ¬ (0 ≤ y3 ∧ y3 ≤ 9) := ⟨c_20, c_29⟩
              refine lv_bipush (v := (-3)) hx hb dX10_sign_90 (by decide) ?_
              exact mu_iret (v := (-3)) hx hb hr hlocks (S) (by show (((-3) : Int32), S) = mXsign N S q y1 y2 y3 y4 y5 y6; unfold mXsign; (first | rw [if_pos c_1] | rw [if_neg c_1] | skip); (first | rw [if_pos c_18n] | rw [if_neg c_18n] | skip); (first | rw [if_pos c_19] | rw [if_neg c_19] | skip); (first | rw [if_pos c_29n] | rw [if_neg c_29n] | skip); (try rfl)) (hP) hS dX10_sign_92
            · skip
              have c_29 := zb_ne0 c_29
              have c_29n : ¬ (y2 = 2 ∧ ¬ (0 ≤ y3 ∧ y3 ≤ 9)) := fun z9 => z9.2 c_29
              refine lv_iload_n hx hb dX10_sign_52 rfl (lv_at hl 2 rfl) ?_
              refine lv_iconst (v := 3) hx hb dX10_sign_53 (by decide) ?_
              refine lv_icmp_ne (tgt := 66) hx hb dX10_sign_54 (by decide) (fun c_30 => ?_) (fun c_30 => ?_)
              · skip
                have c_30n : ¬ (y2 = 3 ∧ ¬ (0 ≤ y3 ∧ y3 ≤ 5)) := fun z9 => c_30 z9.1
                refine lv_iload hx hb dX10_sign_66 (lv_at hl 4 rfl) ?_
                refine lv_iconst (v := 1) hx hb dX10_sign_68 (by decide) ?_
                refine lv_bipush (v := 60) hx hb dX10_sign_69 (by decide) ?_
                refine ro_S (As := [.int y4, .int 1, .int 60]) (rest := []) ⟨hx, hb, hml, hown, hts⟩ (c_X10_in l D cI cZ  y4 1 60) (cw_X10_90 hts rfl rfl ⟨Nat.le_of_ble_eq_true rfl, Nat.le_of_ble_eq_true rfl⟩) hK P_nil rfl hl.1 rfl (Nat.le_of_ble_eq_true rfl) dX10_sign_71 ⟨Nat.zero_le _, Nat.zero_le _⟩ ?_
                refine lv_if_eq (tgt := 90) hx hb dX10_sign_74 (by decide) (fun c_31 => ?_) (fun c_31 => ?_)
                · skip
                  have c_31 := zb_eq0 c_31
                  refine lv_bipush (v := (-3)) hx hb dX10_sign_90 (by decide) ?_
                  exact mu_iret (v := (-3)) hx hb hr hlocks (S) (by show (((-3) : Int32), S) = mXsign N S q y1 y2 y3 y4 y5 y6; unfold mXsign; (first | rw [if_pos c_1] | rw [if_neg c_1] | skip); (first | rw [if_pos c_18n] | rw [if_neg c_18n] | skip); (first | rw [if_pos c_19] | rw [if_neg c_19] | skip); (first | rw [if_pos c_29n] | rw [if_neg c_29n] | skip); (first | rw [if_pos c_30n] | rw [if_neg c_30n] | skip); (first | rw [if_pos c_31] | rw [if_neg c_31] | skip); (try rfl)) (hP) hS dX10_sign_92
                · skip
                  have c_31 := zb_ne0 c_31
                  refine lv_iload hx hb dX10_sign_77 (lv_at hl 5 rfl) ?_
                  refine lv_aload_n hx hb dX10_sign_79 rfl (lv_at hl 0 rfl) ?_
                  refine lv_iload_n hx hb dX10_sign_80 rfl (lv_at hl 1 rfl) ?_
                  refine ro_V (As := [.int y1]) (rest := [.int y5]) ⟨hx, hb, hml, hown, hts⟩ (c_X10_pathsAt l D cI cZ am N hN16 S hS24 q o ho8 ro hr10 t ht6 fo hf5 k hk8 z y1) (cw_X10_118 hts rfl rfl ⟨Nat.le_of_ble_eq_true rfl, Nat.le_of_ble_eq_true rfl⟩) hK hP (ci := 10) rfl rfl rfl hl.1 rfl (Nat.le_of_ble_eq_true rfl) dX10_sign_81 ⟨Nat.zero_le _, Nat.zero_le _⟩ ?_
                  refine lv_iconst (v := (-1)) hx hb dX10_sign_84 (by decide) ?_
                  refine lv_ixor hx hb dX10_sign_85 ?_
                  refine lv_iand hx hb dX10_sign_86 ?_
                  refine lv_if_eq (tgt := 93) hx hb dX10_sign_87 (by decide) (fun c_32 => ?_) (fun c_32 => ?_)
                  · skip
                    refine lv_aload_n hx hb dX10_sign_93 rfl (lv_at hl 0 rfl) ?_
                    refine va_get (D := D) (ci := 10) (v := .int (nI (S_n S))) (C := RX10) (T := TX10) (N := 41) hx hb hts hin10 hown hK.1 hP 0 rfl rfl 6 (by decide) (hts _ fl_X10_115) (fun _ h9 => h9) rfl dX10_sign_94 ?_
                    refine lv_bipush (v := 24) hx hb dX10_sign_97 (by decide) ?_
                    refine lv_icmp_ne (tgt := 105) hx hb dX10_sign_99 (by decide) (fun c_33 => ?_) (fun c_33 => ?_)
                    · skip
                      have hb9 : (S_n S) < 24 := by have h9 : (S_n S) ≠ 24 := fun q9 => c_33 (by rw [q9]; rfl); omega
                      refine lv_aload_n hx hb dX10_sign_105 rfl (lv_at hl 0 rfl) ?_
                      refine va_get (D := D) (ci := 10) (v := .ref (am 4)) (C := RX10) (T := TX10) (N := 41) hx hb hts hin10 hown hK.1 hP 0 rfl rfl 7 (by decide) (hts _ fl_X10_19) (fun _ h9 => h9) rfl dX10_sign_106 ?_
                      refine lv_aload_n hx hb dX10_sign_109 rfl (lv_at hl 0 rfl) ?_
                      refine va_get (D := D) (ci := 10) (v := .int (nI (S_n S))) (C := RX10) (T := TX10) (N := 41) hx hb hts hin10 hown hK.1 hP 0 rfl rfl 6 (by decide) (hts _ fl_X10_115) (fun _ h9 => h9) rfl dX10_sign_110 ?_
                      refine lv_iload_n hx hb dX10_sign_113 rfl (lv_at hl 1 rfl) ?_
                      refine z_iast hx hb hK.1 hP hD hS 4 0 rfl rfl (S_n S) rfl hb9 (by decide)  dX10_sign_114 (fun H locs hP hD hS => ?_)
                      have hP : va_P D vwCl (wM am cI cZ N ((S_n S), (upd (S_p S) (S_n S) y1), (S_k S), (S_v S), (S_f S), (S_d S), (S_u S), (S_y S), (S_t S)) q o ro t fo k z) H := hP
                      have hD : va_D _ (wM am cI cZ N ((S_n S), (upd (S_p S) (S_n S) y1), (S_k S), (S_v S), (S_f S), (S_d S), (S_u S), (S_y S), (S_t S)) q o ro t fo k z) := hD
                      refine lv_aload_n hx hb dX10_sign_115 rfl (lv_at hl 0 rfl) ?_
                      refine va_get (D := D) (ci := 10) (v := .ref (am 5)) (C := RX10) (T := TX10) (N := 41) hx hb hts hin10 hown hK.1 hP 0 rfl rfl 8 (by decide) (hts _ fl_X10_22) (fun _ h9 => h9) rfl dX10_sign_116 ?_
                      refine lv_aload_n hx hb dX10_sign_119 rfl (lv_at hl 0 rfl) ?_
                      refine va_get (D := D) (ci := 10) (v := .int (nI (S_n S))) (C := RX10) (T := TX10) (N := 41) hx hb hts hin10 hown hK.1 hP 0 rfl rfl 6 (by decide) (hts _ fl_X10_115) (fun _ h9 => h9) rfl dX10_sign_120 ?_
                      refine lv_iload_n hx hb dX10_sign_123 rfl (lv_at hl 2 rfl) ?_
                      refine z_iast hx hb hK.1 hP hD hS 5 0 rfl rfl (S_n S) rfl hb9 (by decide)  dX10_sign_124 (fun H locs hP hD hS => ?_)
                      have hP : va_P D vwCl (wM am cI cZ N ((S_n S), (upd (S_p S) (S_n S) y1), (upd (S_k S) (S_n S) y2), (S_v S), (S_f S), (S_d S), (S_u S), (S_y S), (S_t S)) q o ro t fo k z) H := hP
                      have hD : va_D _ (wM am cI cZ N ((S_n S), (upd (S_p S) (S_n S) y1), (upd (S_k S) (S_n S) y2), (S_v S), (S_f S), (S_d S), (S_u S), (S_y S), (S_t S)) q o ro t fo k z) := hD
                      refine lv_aload_n hx hb dX10_sign_125 rfl (lv_at hl 0 rfl) ?_
                      refine va_get (D := D) (ci := 10) (v := .ref (am 6)) (C := RX10) (T := TX10) (N := 41) hx hb hts hin10 hown hK.1 hP 0 rfl rfl 9 (by decide) (hts _ fl_X10_25) (fun _ h9 => h9) rfl dX10_sign_126 ?_
                      refine lv_aload_n hx hb dX10_sign_129 rfl (lv_at hl 0 rfl) ?_
                      refine va_get (D := D) (ci := 10) (v := .int (nI (S_n S))) (C := RX10) (T := TX10) (N := 41) hx hb hts hin10 hown hK.1 hP 0 rfl rfl 6 (by decide) (hts _ fl_X10_115) (fun _ h9 => h9) rfl dX10_sign_130 ?_
                      refine lv_iload_n hx hb dX10_sign_133 rfl (lv_at hl 3 rfl) ?_
                      refine z_iast hx hb hK.1 hP hD hS 6 0 rfl rfl (S_n S) rfl hb9 (by decide)  dX10_sign_134 (fun H locs hP hD hS => ?_)
                      have hP : va_P D vwCl (wM am cI cZ N ((S_n S), (upd (S_p S) (S_n S) y1), (upd (S_k S) (S_n S) y2), (upd (S_v S) (S_n S) y3), (S_f S), (S_d S), (S_u S), (S_y S), (S_t S)) q o ro t fo k z) H := hP
                      have hD : va_D _ (wM am cI cZ N ((S_n S), (upd (S_p S) (S_n S) y1), (upd (S_k S) (S_n S) y2), (upd (S_v S) (S_n S) y3), (S_f S), (S_d S), (S_u S), (S_y S), (S_t S)) q o ro t fo k z) := hD
                      refine lv_aload_n hx hb dX10_sign_135 rfl (lv_at hl 0 rfl) ?_
                      refine va_get (D := D) (ci := 10) (v := .ref (am 7)) (C := RX10) (T := TX10) (N := 41) hx hb hts hin10 hown hK.1 hP 0 rfl rfl 10 (by decide) (hts _ fl_X10_28) (fun _ h9 => h9) rfl dX10_sign_136 ?_
                      refine lv_aload_n hx hb dX10_sign_139 rfl (lv_at hl 0 rfl) ?_
                      refine va_get (D := D) (ci := 10) (v := .int (nI (S_n S))) (C := RX10) (T := TX10) (N := 41) hx hb hts hin10 hown hK.1 hP 0 rfl rfl 6 (by decide) (hts _ fl_X10_115) (fun _ h9 => h9) rfl dX10_sign_140 ?_
                      refine lv_iload hx hb dX10_sign_143 (lv_at hl 4 rfl) ?_
                      refine z_iast hx hb hK.1 hP hD hS 7 0 rfl rfl (S_n S) rfl hb9 (by decide)  dX10_sign_145 (fun H locs hP hD hS => ?_)
                      have hP : va_P D vwCl (wM am cI cZ N ((S_n S), (upd (S_p S) (S_n S) y1), (upd (S_k S) (S_n S) y2), (upd (S_v S) (S_n S) y3), (upd (S_f S) (S_n S) y4), (S_d S), (S_u S), (S_y S), (S_t S)) q o ro t fo k z) H := hP
                      have hD : va_D _ (wM am cI cZ N ((S_n S), (upd (S_p S) (S_n S) y1), (upd (S_k S) (S_n S) y2), (upd (S_v S) (S_n S) y3), (upd (S_f S) (S_n S) y4), (S_d S), (S_u S), (S_y S), (S_t S)) q o ro t fo k z) := hD
                      refine lv_aload_n hx hb dX10_sign_146 rfl (lv_at hl 0 rfl) ?_
                      refine va_get (D := D) (ci := 10) (v := .ref (am 8)) (C := RX10) (T := TX10) (N := 41) hx hb hts hin10 hown hK.1 hP 0 rfl rfl 11 (by decide) (hts _ fl_X10_31) (fun _ h9 => h9) rfl dX10_sign_147 ?_
                      refine lv_aload_n hx hb dX10_sign_150 rfl (lv_at hl 0 rfl) ?_
                      refine va_get (D := D) (ci := 10) (v := .int (nI (S_n S))) (C := RX10) (T := TX10) (N := 41) hx hb hts hin10 hown hK.1 hP 0 rfl rfl 6 (by decide) (hts _ fl_X10_115) (fun _ h9 => h9) rfl dX10_sign_151 ?_
                      refine lv_aload_n hx hb dX10_sign_154 rfl (lv_at hl 0 rfl) ?_
                      refine va_get (D := D) (ci := 10) (v := .int q.1) (C := RX10) (T := TX10) (N := 41) hx hb hts hin10 hown hK.1 hP 0 rfl rfl 4 (by decide) (hts _ fl_X10_112) (fun _ h9 => h9) rfl dX10_sign_155 ?_
                      refine z_iast hx hb hK.1 hP hD hS 8 0 rfl rfl (S_n S) rfl hb9 (by decide)  dX10_sign_158 (fun H locs hP hD hS => ?_)
                      have hP : va_P D vwCl (wM am cI cZ N ((S_n S), (upd (S_p S) (S_n S) y1), (upd (S_k S) (S_n S) y2), (upd (S_v S) (S_n S) y3), (upd (S_f S) (S_n S) y4), (upd (S_d S) (S_n S) q.1), (S_u S), (S_y S), (S_t S)) q o ro t fo k z) H := hP
                      have hD : va_D _ (wM am cI cZ N ((S_n S), (upd (S_p S) (S_n S) y1), (upd (S_k S) (S_n S) y2), (upd (S_v S) (S_n S) y3), (upd (S_f S) (S_n S) y4), (upd (S_d S) (S_n S) q.1), (S_u S), (S_y S), (S_t S)) q o ro t fo k z) := hD
                      refine lv_aload_n hx hb dX10_sign_159 rfl (lv_at hl 0 rfl) ?_
                      refine va_get (D := D) (ci := 10) (v := .ref (am 9)) (C := RX10) (T := TX10) (N := 41) hx hb hts hin10 hown hK.1 hP 0 rfl rfl 12 (by decide) (hts _ fl_X10_34) (fun _ h9 => h9) rfl dX10_sign_160 ?_
                      refine lv_aload_n hx hb dX10_sign_163 rfl (lv_at hl 0 rfl) ?_
                      refine va_get (D := D) (ci := 10) (v := .int (nI (S_n S))) (C := RX10) (T := TX10) (N := 41) hx hb hts hin10 hown hK.1 hP 0 rfl rfl 6 (by decide) (hts _ fl_X10_115) (fun _ h9 => h9) rfl dX10_sign_164 ?_
                      refine lv_iload hx hb dX10_sign_167 (lv_at hl 5 rfl) ?_
                      refine z_iast hx hb hK.1 hP hD hS 9 0 rfl rfl (S_n S) rfl hb9 (by decide)  dX10_sign_169 (fun H locs hP hD hS => ?_)
                      have hP : va_P D vwCl (wM am cI cZ N ((S_n S), (upd (S_p S) (S_n S) y1), (upd (S_k S) (S_n S) y2), (upd (S_v S) (S_n S) y3), (upd (S_f S) (S_n S) y4), (upd (S_d S) (S_n S) q.1), (S_u S), (upd (S_y S) (S_n S) y5), (S_t S)) q o ro t fo k z) H := hP
                      have hD : va_D _ (wM am cI cZ N ((S_n S), (upd (S_p S) (S_n S) y1), (upd (S_k S) (S_n S) y2), (upd (S_v S) (S_n S) y3), (upd (S_f S) (S_n S) y4), (upd (S_d S) (S_n S) q.1), (S_u S), (upd (S_y S) (S_n S) y5), (S_t S)) q o ro t fo k z) := hD
                      refine lv_aload_n hx hb dX10_sign_170 rfl (lv_at hl 0 rfl) ?_
                      refine va_get (D := D) (ci := 10) (v := .ref (am 10)) (C := RX10) (T := TX10) (N := 41) hx hb hts hin10 hown hK.1 hP 0 rfl rfl 13 (by decide) (hts _ fl_X10_37) (fun _ h9 => h9) rfl dX10_sign_171 ?_
                      refine lv_aload_n hx hb dX10_sign_174 rfl (lv_at hl 0 rfl) ?_
                      refine va_get (D := D) (ci := 10) (v := .int (nI (S_n S))) (C := RX10) (T := TX10) (N := 41) hx hb hts hin10 hown hK.1 hP 0 rfl rfl 6 (by decide) (hts _ fl_X10_115) (fun _ h9 => h9) rfl dX10_sign_175 ?_
                      refine lv_iload hx hb dX10_sign_178 (lv_at hl 6 rfl) ?_
                      refine z_zast hx hb hK.1 hP hD hS 10 1 rfl rfl (S_n S) rfl hb9 (by decide) (by rcases hy with h9 | h9 <;> rw [h9] <;> rfl) dX10_sign_180 (fun H locs hP hD hS => ?_)
                      have hP : va_P D vwCl (wM am cI cZ N ((S_n S), (upd (S_p S) (S_n S) y1), (upd (S_k S) (S_n S) y2), (upd (S_v S) (S_n S) y3), (upd (S_f S) (S_n S) y4), (upd (S_d S) (S_n S) q.1), (S_u S), (upd (S_y S) (S_n S) y5), (upd (S_t S) (S_n S) y6)) q o ro t fo k z) H := hP
                      have hD : va_D _ (wM am cI cZ N ((S_n S), (upd (S_p S) (S_n S) y1), (upd (S_k S) (S_n S) y2), (upd (S_v S) (S_n S) y3), (upd (S_f S) (S_n S) y4), (upd (S_d S) (S_n S) q.1), (S_u S), (upd (S_y S) (S_n S) y5), (upd (S_t S) (S_n S) y6)) q o ro t fo k z) := hD
                      refine lv_aload_n hx hb dX10_sign_181 rfl (lv_at hl 0 rfl) ?_
                      refine va_get (D := D) (ci := 10) (v := .ref (am 11)) (C := RX10) (T := TX10) (N := 41) hx hb hts hin10 hown hK.1 hP 0 rfl rfl 14 (by decide) (hts _ fl_X10_41) (fun _ h9 => h9) rfl dX10_sign_182 ?_
                      refine lv_aload_n hx hb dX10_sign_185 rfl (lv_at hl 0 rfl) ?_
                      refine va_get (D := D) (ci := 10) (v := .int (nI (S_n S))) (C := RX10) (T := TX10) (N := 41) hx hb hts hin10 hown hK.1 hP 0 rfl rfl 6 (by decide) (hts _ fl_X10_115) (fun _ h9 => h9) rfl dX10_sign_186 ?_
                      refine lv_iconst (v := 0) hx hb dX10_sign_189 (by decide) ?_
                      refine z_zast hx hb hK.1 hP hD hS 11 1 rfl rfl (S_n S) rfl hb9 (by decide) rfl dX10_sign_190 (fun H locs hP hD hS => ?_)
                      have hP : va_P D vwCl (wM am cI cZ N ((S_n S), (upd (S_p S) (S_n S) y1), (upd (S_k S) (S_n S) y2), (upd (S_v S) (S_n S) y3), (upd (S_f S) (S_n S) y4), (upd (S_d S) (S_n S) q.1), (upd (S_u S) (S_n S) 0), (upd (S_y S) (S_n S) y5), (upd (S_t S) (S_n S) y6)) q o ro t fo k z) H := hP
                      have hD : va_D _ (wM am cI cZ N ((S_n S), (upd (S_p S) (S_n S) y1), (upd (S_k S) (S_n S) y2), (upd (S_v S) (S_n S) y3), (upd (S_f S) (S_n S) y4), (upd (S_d S) (S_n S) q.1), (upd (S_u S) (S_n S) 0), (upd (S_y S) (S_n S) y5), (upd (S_t S) (S_n S) y6)) q o ro t fo k z) := hD
                      refine lv_aload_n hx hb dX10_sign_191 rfl (lv_at hl 0 rfl) ?_
                      refine lv_dup hx hb dX10_sign_192 rfl ?_
                      refine va_get (D := D) (ci := 10) (v := .int (nI (S_n S))) (C := RX10) (T := TX10) (N := 41) hx hb hts hin10 hown hK.1 hP 0 rfl rfl 6 (by decide) (hts _ fl_X10_115) (fun _ h9 => h9) rfl dX10_sign_193 ?_
                      refine lv_iconst (v := 1) hx hb dX10_sign_196 (by decide) ?_
                      refine lv_iadd hx hb dX10_sign_197 ?_
                      rw [nI_1 (S_n S)]
                      refine va_put (D := D) (ci := 10) (v := .int (nI ((S_n S) + 1))) (ty := .int) (C := RX10) (T := TX10) (N := 41) hx hb hts hin10 tyX10 tyX10_ok nmX10 hown hK.1 hP hD hS 0 rfl rfl 6 (by decide) (hts _ fl_X10_115) (fun _ h9 => h9) rfl (by decide +kernel) rfl rfl (Nat.le_of_ble_eq_true rfl) dX10_sign_198 (fun H locs hP hD hS => ?_)
                      have hP : va_P D vwCl (wM am cI cZ N (((S_n S) + 1), (upd (S_p S) (S_n S) y1), (upd (S_k S) (S_n S) y2), (upd (S_v S) (S_n S) y3), (upd (S_f S) (S_n S) y4), (upd (S_d S) (S_n S) q.1), (upd (S_u S) (S_n S) 0), (upd (S_y S) (S_n S) y5), (upd (S_t S) (S_n S) y6)) q o ro t fo k z) H := hP
                      have hD : va_D _ (wM am cI cZ N (((S_n S) + 1), (upd (S_p S) (S_n S) y1), (upd (S_k S) (S_n S) y2), (upd (S_v S) (S_n S) y3), (upd (S_f S) (S_n S) y4), (upd (S_d S) (S_n S) q.1), (upd (S_u S) (S_n S) 0), (upd (S_y S) (S_n S) y5), (upd (S_t S) (S_n S) y6)) q o ro t fo k z) := hD
                      refine lv_aload_n hx hb dX10_sign_201 rfl (lv_at hl 0 rfl) ?_
                      refine va_get (D := D) (ci := 10) (v := .int (nI ((S_n S) + 1))) (C := RX10) (T := TX10) (N := 41) hx hb hts hin10 hown hK.1 hP 0 rfl rfl 6 (by decide) (hts _ fl_X10_115) (fun _ h9 => h9) rfl dX10_sign_202 ?_
                      refine lv_iconst (v := 1) hx hb dX10_sign_205 (by decide) ?_
                      refine lv_isub hx hb dX10_sign_206 ?_
                      rw [nI_pred (S_n S)]
                      exact mu_iret (v := (nI (S_n S))) hx hb hr hlocks ((((S_n S) + 1), (upd (S_p S) (S_n S) y1), (upd (S_k S) (S_n S) y2), (upd (S_v S) (S_n S) y3), (upd (S_f S) (S_n S) y4), (upd (S_d S) (S_n S) q.1), (upd (S_u S) (S_n S) 0), (upd (S_y S) (S_n S) y5), (upd (S_t S) (S_n S) y6))) (by show (((nI (S_n S)) : Int32), (((S_n S) + 1), (upd (S_p S) (S_n S) y1), (upd (S_k S) (S_n S) y2), (upd (S_v S) (S_n S) y3), (upd (S_f S) (S_n S) y4), (upd (S_d S) (S_n S) q.1), (upd (S_u S) (S_n S) 0), (upd (S_y S) (S_n S) y5), (upd (S_t S) (S_n S) y6))) = mXsign N S q y1 y2 y3 y4 y5 y6; unfold mXsign; (first | rw [if_pos c_1] | rw [if_neg c_1] | skip); (first | rw [if_pos c_18n] | rw [if_neg c_18n] | skip); (first | rw [if_pos c_19] | rw [if_neg c_19] | skip); (first | rw [if_pos c_29n] | rw [if_neg c_29n] | skip); (first | rw [if_pos c_30n] | rw [if_neg c_30n] | skip); (first | rw [if_pos c_31] | rw [if_neg c_31] | skip); (first | rw [if_pos c_32] | rw [if_neg c_32] | skip); (first | rw [if_pos c_33] | rw [if_neg c_33] | skip); (try rfl)) (hP) hS dX10_sign_207
                    · skip
                      refine lv_bipush (v := (-5)) hx hb dX10_sign_102 (by decide) ?_
                      exact mu_iret (v := (-5)) hx hb hr hlocks (S) (by show (((-5) : Int32), S) = mXsign N S q y1 y2 y3 y4 y5 y6; unfold mXsign; (first | rw [if_pos c_1] | rw [if_neg c_1] | skip); (first | rw [if_pos c_18n] | rw [if_neg c_18n] | skip); (first | rw [if_pos c_19] | rw [if_neg c_19] | skip); (first | rw [if_pos c_29n] | rw [if_neg c_29n] | skip); (first | rw [if_pos c_30n] | rw [if_neg c_30n] | skip); (first | rw [if_pos c_31] | rw [if_neg c_31] | skip); (first | rw [if_pos c_32] | rw [if_neg c_32] | skip); (first | rw [if_pos c_33] | rw [if_neg c_33] | skip); (try rfl)) (hP) hS dX10_sign_104
                  · skip
                    refine lv_bipush (v := (-3)) hx hb dX10_sign_90 (by decide) ?_
                    exact mu_iret (v := (-3)) hx hb hr hlocks (S) (by show (((-3) : Int32), S) = mXsign N S q y1 y2 y3 y4 y5 y6; unfold mXsign; (first | rw [if_pos c_1] | rw [if_neg c_1] | skip); (first | rw [if_pos c_18n] | rw [if_neg c_18n] | skip); (first | rw [if_pos c_19] | rw [if_neg c_19] | skip); (first | rw [if_pos c_29n] | rw [if_neg c_29n] | skip); (first | rw [if_pos c_30n] | rw [if_neg c_30n] | skip); (first | rw [if_pos c_31] | rw [if_neg c_31] | skip); (first | rw [if_pos c_32] | rw [if_neg c_32] | skip); (try rfl)) (hP) hS dX10_sign_92
              · skip
                exact absurd (c_20.symm.trans c_30) (by decide)
      · skip
        have c_18 := zb_eq0 c_18
        have c_18 : (0 ≤ y2 ∧ y2 ≤ 1) ∧ ¬ mAt N y3 y1 = true := ⟨c_2, c_18⟩
        refine lv_bipush (v := (-2)) hx hb dX10_sign_25 (by decide) ?_
        exact mu_iret (v := (-2)) hx hb hr hlocks (S) (by show (((-2) : Int32), S) = mXsign N S q y1 y2 y3 y4 y5 y6; unfold mXsign; (first | rw [if_pos c_1] | rw [if_neg c_1] | skip); (first | rw [if_pos c_18] | rw [if_neg c_18] | skip); (try rfl)) (hP) hS dX10_sign_27

def mXturn (N : TN) (S : TS) (x y : Int32) : Int32 × TS :=
  if 0 ≤ x ∧ x ≤ nI (S_n S) - 1 then if mAt N y (S_p S x.toNatClampNeg) = true then if S_k S x.toNatClampNeg = 0 then if S_f S x.toNatClampNeg = 0 then (-4, S) else if S_v S x.toNatClampNeg = y then (-4, S) else (S_v S x.toNatClampNeg, (S_n S, S_p S, S_k S, upd (S_v S) x.toNatClampNeg y, S_f S, S_d S, upd (S_u S) x.toNatClampNeg 1, S_y S, S_t S)) else (-4, S) else (-2, S) else (-2, S)
set_option maxHeartbeats 4000000 in
set_option maxRecDepth 100000 in
theorem c_X10_turn (l : Launch) (D : va_G) (cI cZ : ClassId) (am : Nat → Nat) (N : TN) (hN16 : N_n N ≤ 16) (S : TS) (hS24 : S_n S ≤ 24) (q : TQ) (o : TO) (ho8 : o.1 ≤ 8) (ro : TR) (hr10 : ro.1 ≤ 10) (t : TT) (ht6 : t.1 ≤ 6) (fo : TF) (hf5 : fo.1 ≤ 5) (k : TC) (hk8 : k.2.1 ≤ 8) (z : TZ) (x y : Int32) : MI l D cI cZ yX10_turn wyX10_turn ({ frames := 2, cells := 0, slots := 0, locals := 44 } : Room) [.ref (am 0), .int x, .int y] (wM am cI cZ N S q o ro t fo k z) (fun r u => (r, u) = mXturn N S x y) (fun (u : TS) => wM am cI cZ N u q o ro t fo k z) := by
  refine Met.ofW (cc := cX10_turn) (maxL := 4) (ret := (some .int)) (by decide) rfl ?_
  intro p e s m args below meth c s₁ B hml hv
  obtain ⟨rfl, hK, hP, hD0⟩ := hv
  have hx := B.exec
  have hb := B.bytes
  have hr := B.returns
  have hts0 := atoms_spec (ws := wyX10_turn) B.pre
  have hts : ∀ w ∈ big, w.before _ s = true := fun w h => hts0 w (List.mem_cons_of_mem _ h)
  have hown : s.vm.findClass RX10 = some m.cls := findClass_of_methodNamed B.named
  have hlocks := B.notSynchronized
  have hD := D_inW hD0
  have hS : va_S (inW (wM am cI cZ N S q o ro t fo k z)) s.heap s.heap [] := va_S.rf
  have hl := lv_entry ([.ref (am 0), .int x, .int y]) (n := 4) (Nat.le_of_ble_eq_true rfl)
  rw [lg_entry_eq]
  generalize (lg_sl ([.ref (am 0), .int x, .int y]) ++ List.replicate (4 - (lg_sl ([.ref (am 0), .int x, .int y])).length) Slot.unset).toArray = ls at hl ⊢
  have hl : lv_has ls 4 [(0, .ref (am 0)), (1, .int x), (2, .int y)] := hl
  refine lv_iload_n hx hb dX10_turn_0 rfl (lv_at hl 1 rfl) ?_
  refine lv_iconst (v := 0) hx hb dX10_turn_1 (by decide) ?_
  refine lv_aload_n hx hb dX10_turn_2 rfl (lv_at hl 0 rfl) ?_
  refine va_get (D := D) (ci := 10) (v := .int (nI (S_n S))) (C := RX10) (T := TX10) (N := 41) hx hb hts hin10 hown hK.1 hP 0 rfl rfl 6 (by decide) (hts _ fl_X10_115) (fun _ h9 => h9) rfl dX10_turn_3 ?_
  refine lv_iconst (v := 1) hx hb dX10_turn_6 (by decide) ?_
  refine lv_isub hx hb dX10_turn_7 ?_
  refine ro_S (As := [.int x, .int 0, .int ((nI (S_n S)) - 1)]) (rest := []) ⟨hx, hb, hml, hown, hts⟩ (c_X10_in l D cI cZ  x 0 ((nI (S_n S)) - 1)) (cw_X10_90 hts rfl rfl ⟨Nat.le_of_ble_eq_true rfl, Nat.le_of_ble_eq_true rfl⟩) hK P_nil rfl hl.1 rfl (Nat.le_of_ble_eq_true rfl) dX10_turn_8 ⟨Nat.zero_le _, Nat.zero_le _⟩ ?_
  refine lv_if_eq (tgt := 28) hx hb dX10_turn_11 (by decide) (fun c_1 => ?_) (fun c_1 => ?_)
  · skip
    have c_1 := zb_eq0 c_1
    refine lv_bipush (v := (-2)) hx hb dX10_turn_28 (by decide) ?_
    exact mu_iret (v := (-2)) hx hb hr hlocks (S) (by show (((-2) : Int32), S) = mXturn N S x y; unfold mXturn; (first | rw [if_pos c_1] | rw [if_neg c_1] | skip); (try rfl)) (hP) hS dX10_turn_30
  · skip
    have c_1 := zb_ne0 c_1
    obtain ⟨j, hj, ej⟩ := ix_of (n := (S_n S)) c_1 (by omega)
    have hl : lv_has ls 4 [(0, .ref (am 0)), (1, .int (nI j)), (2, .int y)] := by rw [← ej]; exact hl
    rw [ej] at c_1
    refine lv_aload_n hx hb dX10_turn_14 rfl (lv_at hl 0 rfl) ?_
    refine lv_iload_n hx hb dX10_turn_15 rfl (lv_at hl 2 rfl) ?_
    refine lv_aload_n hx hb dX10_turn_16 rfl (lv_at hl 0 rfl) ?_
    refine va_get (D := D) (ci := 10) (v := .ref (am 4)) (C := RX10) (T := TX10) (N := 41) hx hb hts hin10 hown hK.1 hP 0 rfl rfl 7 (by decide) (hts _ fl_X10_19) (fun _ h9 => h9) rfl dX10_turn_17 ?_
    refine lv_iload_n hx hb dX10_turn_20 rfl (lv_at hl 1 rfl) ?_
    refine z_iald hx hb hK.1 hP 4 0 rfl rfl j rfl (show j < 24 by omega) (by decide) dX10_turn_21 ?_
    refine ro_V (As := [.int y, .int ((S_p S) j)]) (rest := []) ⟨hx, hb, hml, hown, hts⟩ (c_X10_isAt l D cI cZ am N hN16 S hS24 q o ho8 ro hr10 t ht6 fo hf5 k hk8 z y ((S_p S) j)) (cw_X10_97 hts rfl rfl ⟨Nat.le_of_ble_eq_true rfl, Nat.le_of_ble_eq_true rfl⟩) hK hP (ci := 10) rfl rfl rfl hl.1 rfl (Nat.le_of_ble_eq_true rfl) dX10_turn_22 ⟨Nat.zero_le _, Nat.zero_le _⟩ ?_
    refine lv_if_ne (tgt := 31) hx hb dX10_turn_25 (by decide) (fun c_2 => ?_) (fun c_2 => ?_)
    · skip
      have c_2 := zb_ne0 c_2
      refine lv_aload_n hx hb dX10_turn_31 rfl (lv_at hl 0 rfl) ?_
      refine va_get (D := D) (ci := 10) (v := .ref (am 5)) (C := RX10) (T := TX10) (N := 41) hx hb hts hin10 hown hK.1 hP 0 rfl rfl 8 (by decide) (hts _ fl_X10_22) (fun _ h9 => h9) rfl dX10_turn_32 ?_
      refine lv_iload_n hx hb dX10_turn_35 rfl (lv_at hl 1 rfl) ?_
      refine z_iald hx hb hK.1 hP 5 0 rfl rfl j rfl (show j < 24 by omega) (by decide) dX10_turn_36 ?_
      refine lv_if_ne (tgt := 59) hx hb dX10_turn_37 (by decide) (fun c_3 => ?_) (fun c_3 => ?_)
      · skip
        refine lv_bipush (v := (-4)) hx hb dX10_turn_59 (by decide) ?_
        exact mu_iret (v := (-4)) hx hb hr hlocks (S) (by show (((-4) : Int32), S) = mXturn N S x y; unfold mXturn; rw [ej, nI_cl (by omega)]; (first | rw [if_pos c_1] | rw [if_neg c_1] | skip); (first | rw [if_pos c_2] | rw [if_neg c_2] | skip); (first | rw [if_pos c_3] | rw [if_neg c_3] | skip); (try rfl)) (hP) hS dX10_turn_61
      · skip
        refine lv_aload_n hx hb dX10_turn_40 rfl (lv_at hl 0 rfl) ?_
        refine va_get (D := D) (ci := 10) (v := .ref (am 7)) (C := RX10) (T := TX10) (N := 41) hx hb hts hin10 hown hK.1 hP 0 rfl rfl 10 (by decide) (hts _ fl_X10_28) (fun _ h9 => h9) rfl dX10_turn_41 ?_
        refine lv_iload_n hx hb dX10_turn_44 rfl (lv_at hl 1 rfl) ?_
        refine z_iald hx hb hK.1 hP 7 0 rfl rfl j rfl (show j < 24 by omega) (by decide) dX10_turn_45 ?_
        refine lv_if_eq (tgt := 59) hx hb dX10_turn_46 (by decide) (fun c_4 => ?_) (fun c_4 => ?_)
        · skip
          refine lv_bipush (v := (-4)) hx hb dX10_turn_59 (by decide) ?_
          exact mu_iret (v := (-4)) hx hb hr hlocks (S) (by show (((-4) : Int32), S) = mXturn N S x y; unfold mXturn; rw [ej, nI_cl (by omega)]; (first | rw [if_pos c_1] | rw [if_neg c_1] | skip); (first | rw [if_pos c_2] | rw [if_neg c_2] | skip); (first | rw [if_pos c_3] | rw [if_neg c_3] | skip); (first | rw [if_pos c_4] | rw [if_neg c_4] | skip); (try rfl)) (hP) hS dX10_turn_61
        · skip
          refine lv_aload_n hx hb dX10_turn_49 rfl (lv_at hl 0 rfl) ?_
          refine va_get (D := D) (ci := 10) (v := .ref (am 6)) (C := RX10) (T := TX10) (N := 41) hx hb hts hin10 hown hK.1 hP 0 rfl rfl 9 (by decide) (hts _ fl_X10_25) (fun _ h9 => h9) rfl dX10_turn_50 ?_
          refine lv_iload_n hx hb dX10_turn_53 rfl (lv_at hl 1 rfl) ?_
          refine z_iald hx hb hK.1 hP 6 0 rfl rfl j rfl (show j < 24 by omega) (by decide) dX10_turn_54 ?_
          refine lv_iload_n hx hb dX10_turn_55 rfl (lv_at hl 2 rfl) ?_
          refine lv_icmp_ne (tgt := 62) hx hb dX10_turn_56 (by decide) (fun c_5 => ?_) (fun c_5 => ?_)
          · skip
            refine lv_aload_n hx hb dX10_turn_62 rfl (lv_at hl 0 rfl) ?_
            refine va_get (D := D) (ci := 10) (v := .ref (am 6)) (C := RX10) (T := TX10) (N := 41) hx hb hts hin10 hown hK.1 hP 0 rfl rfl 9 (by decide) (hts _ fl_X10_25) (fun _ h9 => h9) rfl dX10_turn_63 ?_
            refine lv_iload_n hx hb dX10_turn_66 rfl (lv_at hl 1 rfl) ?_
            refine z_iald hx hb hK.1 hP 6 0 rfl rfl j rfl (show j < 24 by omega) (by decide) dX10_turn_67 ?_
            refine lv_istore_n (lv' := [(3, .int ((S_v S) j)), (0, .ref (am 0)), (1, .int (nI j)), (2, .int y)]) hx hb dX10_turn_68 rfl hl (by decide) rfl (fun ls hl => ?_)
            refine lv_aload_n hx hb dX10_turn_69 rfl (lv_at hl 1 rfl) ?_
            refine va_get (D := D) (ci := 10) (v := .ref (am 6)) (C := RX10) (T := TX10) (N := 41) hx hb hts hin10 hown hK.1 hP 0 rfl rfl 9 (by decide) (hts _ fl_X10_25) (fun _ h9 => h9) rfl dX10_turn_70 ?_
            refine lv_iload_n hx hb dX10_turn_73 rfl (lv_at hl 2 rfl) ?_
            refine lv_iload_n hx hb dX10_turn_74 rfl (lv_at hl 3 rfl) ?_
            refine z_iast hx hb hK.1 hP hD hS 6 0 rfl rfl j rfl (show j < 24 by omega) (by decide)  dX10_turn_75 (fun H locs hP hD hS => ?_)
            have hP : va_P D vwCl (wM am cI cZ N ((S_n S), (S_p S), (S_k S), (upd (S_v S) j y), (S_f S), (S_d S), (S_u S), (S_y S), (S_t S)) q o ro t fo k z) H := hP
            have hD : va_D _ (wM am cI cZ N ((S_n S), (S_p S), (S_k S), (upd (S_v S) j y), (S_f S), (S_d S), (S_u S), (S_y S), (S_t S)) q o ro t fo k z) := hD
            refine lv_aload_n hx hb dX10_turn_76 rfl (lv_at hl 1 rfl) ?_
            refine va_get (D := D) (ci := 10) (v := .ref (am 11)) (C := RX10) (T := TX10) (N := 41) hx hb hts hin10 hown hK.1 hP 0 rfl rfl 14 (by decide) (hts _ fl_X10_41) (fun _ h9 => h9) rfl dX10_turn_77 ?_
            refine lv_iload_n hx hb dX10_turn_80 rfl (lv_at hl 2 rfl) ?_
            refine lv_iconst (v := 1) hx hb dX10_turn_81 (by decide) ?_
            refine z_zast hx hb hK.1 hP hD hS 11 1 rfl rfl j rfl (show j < 24 by omega) (by decide) rfl dX10_turn_82 (fun H locs hP hD hS => ?_)
            have hP : va_P D vwCl (wM am cI cZ N ((S_n S), (S_p S), (S_k S), (upd (S_v S) j y), (S_f S), (S_d S), (upd (S_u S) j 1), (S_y S), (S_t S)) q o ro t fo k z) H := hP
            have hD : va_D _ (wM am cI cZ N ((S_n S), (S_p S), (S_k S), (upd (S_v S) j y), (S_f S), (S_d S), (upd (S_u S) j 1), (S_y S), (S_t S)) q o ro t fo k z) := hD
            refine lv_iload_n hx hb dX10_turn_83 rfl (lv_at hl 0 rfl) ?_
            exact mu_iret (v := ((S_v S) j)) hx hb hr hlocks (((S_n S), (S_p S), (S_k S), (upd (S_v S) j y), (S_f S), (S_d S), (upd (S_u S) j 1), (S_y S), (S_t S))) (by show ((((S_v S) j) : Int32), ((S_n S), (S_p S), (S_k S), (upd (S_v S) j y), (S_f S), (S_d S), (upd (S_u S) j 1), (S_y S), (S_t S))) = mXturn N S x y; unfold mXturn; rw [ej, nI_cl (by omega)]; (first | rw [if_pos c_1] | rw [if_neg c_1] | skip); (first | rw [if_pos c_2] | rw [if_neg c_2] | skip); (first | rw [if_pos c_3] | rw [if_neg c_3] | skip); (first | rw [if_pos c_4] | rw [if_neg c_4] | skip); (first | rw [if_pos c_5] | rw [if_neg c_5] | skip); (try rfl)) (hP) hS dX10_turn_84
          · skip
            refine lv_bipush (v := (-4)) hx hb dX10_turn_59 (by decide) ?_
            exact mu_iret (v := (-4)) hx hb hr hlocks (S) (by show (((-4) : Int32), S) = mXturn N S x y; unfold mXturn; rw [ej, nI_cl (by omega)]; (first | rw [if_pos c_1] | rw [if_neg c_1] | skip); (first | rw [if_pos c_2] | rw [if_neg c_2] | skip); (first | rw [if_pos c_3] | rw [if_neg c_3] | skip); (first | rw [if_pos c_4] | rw [if_neg c_4] | skip); (first | rw [if_pos c_5] | rw [if_neg c_5] | skip); (try rfl)) (hP) hS dX10_turn_61
    · skip
      have c_2 := zb_eq0 c_2
      refine lv_bipush (v := (-2)) hx hb dX10_turn_28 (by decide) ?_
      exact mu_iret (v := (-2)) hx hb hr hlocks (S) (by show (((-2) : Int32), S) = mXturn N S x y; unfold mXturn; rw [ej, nI_cl (by omega)]; (first | rw [if_pos c_1] | rw [if_neg c_1] | skip); (first | rw [if_pos c_2] | rw [if_neg c_2] | skip); (try rfl)) (hP) hS dX10_turn_30

def mXat (S : TS) (x y : Int32) : Int32 := if 0 ≤ x ∧ x ≤ nI (S_n S) - 1 then if y = 0 then S_p S x.toNatClampNeg else if y = 1 then S_k S x.toNatClampNeg else if y = 2 then S_v S x.toNatClampNeg else if y = 3 then S_f S x.toNatClampNeg else if y = 4 then S_d S x.toNatClampNeg else if y = 5 then (if S_u S x.toNatClampNeg = 0 then 0 else 1) else -3 else -2
set_option maxHeartbeats 4000000 in
set_option maxRecDepth 100000 in
theorem c_X10_at (l : Launch) (D : va_G) (cI cZ : ClassId) (am : Nat → Nat) (N : TN) (hN16 : N_n N ≤ 16) (S : TS) (hS24 : S_n S ≤ 24) (q : TQ) (o : TO) (ho8 : o.1 ≤ 8) (ro : TR) (hr10 : ro.1 ≤ 10) (t : TT) (ht6 : t.1 ≤ 6) (fo : TF) (hf5 : fo.1 ≤ 5) (k : TC) (hk8 : k.2.1 ≤ 8) (z : TZ) (x y : Int32) : RO l D cI cZ yX10_at wyX10_at ({ frames := 1, cells := 0, slots := 0, locals := 22 } : Room) [.ref (am 0), .int x, .int y] (wM am cI cZ N S q o ro t fo k z) (mXat S x y) := by
  refine Met.ofW (cc := cX10_at) (maxL := 3) (ret := (some .int)) (by decide) rfl ?_
  intro p e s m args below meth c s₁ B hml hv
  obtain ⟨rfl, hK, hP⟩ := hv
  have hx := B.exec
  have hb := B.bytes
  have hr := B.returns
  have hts0 := atoms_spec (ws := wyX10_at) B.pre
  have hts : ∀ w ∈ big, w.before _ s = true := fun w h => hts0 w (List.mem_cons_of_mem _ h)
  have hown : s.vm.findClass RX10 = some m.cls := findClass_of_methodNamed B.named
  have hlocks := B.notSynchronized
  have hl := lv_entry ([.ref (am 0), .int x, .int y]) (n := 3) (Nat.le_of_ble_eq_true rfl)
  rw [lg_entry_eq]
  generalize (lg_sl ([.ref (am 0), .int x, .int y]) ++ List.replicate (3 - (lg_sl ([.ref (am 0), .int x, .int y])).length) Slot.unset).toArray = ls at hl ⊢
  have hl : lv_has ls 3 [(0, .ref (am 0)), (1, .int x), (2, .int y)] := hl
  refine lv_iload_n hx hb dX10_at_0 rfl (lv_at hl 1 rfl) ?_
  refine lv_iconst (v := 0) hx hb dX10_at_1 (by decide) ?_
  refine lv_aload_n hx hb dX10_at_2 rfl (lv_at hl 0 rfl) ?_
  refine va_get (D := D) (ci := 10) (v := .int (nI (S_n S))) (C := RX10) (T := TX10) (N := 41) hx hb hts hin10 hown hK.1 hP 0 rfl rfl 6 (by decide) (hts _ fl_X10_115) (fun _ h9 => h9) rfl dX10_at_3 ?_
  refine lv_iconst (v := 1) hx hb dX10_at_6 (by decide) ?_
  refine lv_isub hx hb dX10_at_7 ?_
  refine ro_S (As := [.int x, .int 0, .int ((nI (S_n S)) - 1)]) (rest := []) ⟨hx, hb, hml, hown, hts⟩ (c_X10_in l D cI cZ  x 0 ((nI (S_n S)) - 1)) (cw_X10_90 hts rfl rfl ⟨Nat.le_of_ble_eq_true rfl, Nat.le_of_ble_eq_true rfl⟩) hK P_nil rfl hl.1 rfl (Nat.le_of_ble_eq_true rfl) dX10_at_8 ⟨Nat.zero_le _, Nat.zero_le _⟩ ?_
  refine lv_if_ne (tgt := 17) hx hb dX10_at_11 (by decide) (fun c_1 => ?_) (fun c_1 => ?_)
  · skip
    have c_1 := zb_ne0 c_1
    obtain ⟨j, hj, ej⟩ := ix_of (n := (S_n S)) c_1 (by omega)
    have hl : lv_has ls 3 [(0, .ref (am 0)), (1, .int (nI j)), (2, .int y)] := by rw [← ej]; exact hl
    rw [ej] at c_1
    refine lv_iload_n hx hb dX10_at_17 rfl (lv_at hl 2 rfl) ?_
    by_cases c_2_0 : y = 0
    · skip
      refine lv_tableIn (off := 38) (tgt := 56) hx hb dX10_at_18 (by rw [c_2_0]; decide) (by rw [c_2_0]; decide) (by rw [c_2_0]; decide) (by decide) ?_
      refine lv_aload_n hx hb dX10_at_56 rfl (lv_at hl 0 rfl) ?_
      refine va_get (D := D) (ci := 10) (v := .ref (am 4)) (C := RX10) (T := TX10) (N := 41) hx hb hts hin10 hown hK.1 hP 0 rfl rfl 7 (by decide) (hts _ fl_X10_19) (fun _ h9 => h9) rfl dX10_at_57 ?_
      refine lv_iload_n hx hb dX10_at_60 rfl (lv_at hl 1 rfl) ?_
      refine z_iald hx hb hK.1 hP 4 0 rfl rfl j rfl (show j < 24 by omega) (by decide) dX10_at_61 ?_
      exact ro_iret hx hb hr hlocks (by show (((S_p S) j) : Int32) = mXat S x y; unfold mXat; rw [ej, nI_cl (by omega)]; simp [c_1, c_2_0, ← Int32.not_le]) dX10_at_62
    by_cases c_2_1 : y = 1
    · skip
      refine lv_tableIn (off := 45) (tgt := 63) hx hb dX10_at_18 (by rw [c_2_1]; decide) (by rw [c_2_1]; decide) (by rw [c_2_1]; decide) (by decide) ?_
      refine lv_aload_n hx hb dX10_at_63 rfl (lv_at hl 0 rfl) ?_
      refine va_get (D := D) (ci := 10) (v := .ref (am 5)) (C := RX10) (T := TX10) (N := 41) hx hb hts hin10 hown hK.1 hP 0 rfl rfl 8 (by decide) (hts _ fl_X10_22) (fun _ h9 => h9) rfl dX10_at_64 ?_
      refine lv_iload_n hx hb dX10_at_67 rfl (lv_at hl 1 rfl) ?_
      refine z_iald hx hb hK.1 hP 5 0 rfl rfl j rfl (show j < 24 by omega) (by decide) dX10_at_68 ?_
      exact ro_iret hx hb hr hlocks (by show (((S_k S) j) : Int32) = mXat S x y; unfold mXat; rw [ej, nI_cl (by omega)]; simp [c_1, c_2_1, c_2_0, ← Int32.not_le]) dX10_at_69
    by_cases c_2_2 : y = 2
    · skip
      refine lv_tableIn (off := 52) (tgt := 70) hx hb dX10_at_18 (by rw [c_2_2]; decide) (by rw [c_2_2]; decide) (by rw [c_2_2]; decide) (by decide) ?_
      refine lv_aload_n hx hb dX10_at_70 rfl (lv_at hl 0 rfl) ?_
      refine va_get (D := D) (ci := 10) (v := .ref (am 6)) (C := RX10) (T := TX10) (N := 41) hx hb hts hin10 hown hK.1 hP 0 rfl rfl 9 (by decide) (hts _ fl_X10_25) (fun _ h9 => h9) rfl dX10_at_71 ?_
      refine lv_iload_n hx hb dX10_at_74 rfl (lv_at hl 1 rfl) ?_
      refine z_iald hx hb hK.1 hP 6 0 rfl rfl j rfl (show j < 24 by omega) (by decide) dX10_at_75 ?_
      exact ro_iret hx hb hr hlocks (by show (((S_v S) j) : Int32) = mXat S x y; unfold mXat; rw [ej, nI_cl (by omega)]; simp [c_1, c_2_2, c_2_0, c_2_1, ← Int32.not_le]) dX10_at_76
    by_cases c_2_3 : y = 3
    · skip
      refine lv_tableIn (off := 59) (tgt := 77) hx hb dX10_at_18 (by rw [c_2_3]; decide) (by rw [c_2_3]; decide) (by rw [c_2_3]; decide) (by decide) ?_
      refine lv_aload_n hx hb dX10_at_77 rfl (lv_at hl 0 rfl) ?_
      refine va_get (D := D) (ci := 10) (v := .ref (am 7)) (C := RX10) (T := TX10) (N := 41) hx hb hts hin10 hown hK.1 hP 0 rfl rfl 10 (by decide) (hts _ fl_X10_28) (fun _ h9 => h9) rfl dX10_at_78 ?_
      refine lv_iload_n hx hb dX10_at_81 rfl (lv_at hl 1 rfl) ?_
      refine z_iald hx hb hK.1 hP 7 0 rfl rfl j rfl (show j < 24 by omega) (by decide) dX10_at_82 ?_
      exact ro_iret hx hb hr hlocks (by show (((S_f S) j) : Int32) = mXat S x y; unfold mXat; rw [ej, nI_cl (by omega)]; simp [c_1, c_2_3, c_2_0, c_2_1, c_2_2, ← Int32.not_le]) dX10_at_83
    by_cases c_2_4 : y = 4
    · skip
      refine lv_tableIn (off := 66) (tgt := 84) hx hb dX10_at_18 (by rw [c_2_4]; decide) (by rw [c_2_4]; decide) (by rw [c_2_4]; decide) (by decide) ?_
      refine lv_aload_n hx hb dX10_at_84 rfl (lv_at hl 0 rfl) ?_
      refine va_get (D := D) (ci := 10) (v := .ref (am 8)) (C := RX10) (T := TX10) (N := 41) hx hb hts hin10 hown hK.1 hP 0 rfl rfl 11 (by decide) (hts _ fl_X10_31) (fun _ h9 => h9) rfl dX10_at_85 ?_
      refine lv_iload_n hx hb dX10_at_88 rfl (lv_at hl 1 rfl) ?_
      refine z_iald hx hb hK.1 hP 8 0 rfl rfl j rfl (show j < 24 by omega) (by decide) dX10_at_89 ?_
      exact ro_iret hx hb hr hlocks (by show (((S_d S) j) : Int32) = mXat S x y; unfold mXat; rw [ej, nI_cl (by omega)]; simp [c_1, c_2_4, c_2_0, c_2_1, c_2_2, c_2_3, ← Int32.not_le]) dX10_at_90
    by_cases c_2_5 : y = 5
    · skip
      refine lv_tableIn (off := 73) (tgt := 91) hx hb dX10_at_18 (by rw [c_2_5]; decide) (by rw [c_2_5]; decide) (by rw [c_2_5]; decide) (by decide) ?_
      refine lv_aload_n hx hb dX10_at_91 rfl (lv_at hl 0 rfl) ?_
      refine va_get (D := D) (ci := 10) (v := .ref (am 11)) (C := RX10) (T := TX10) (N := 41) hx hb hts hin10 hown hK.1 hP 0 rfl rfl 14 (by decide) (hts _ fl_X10_41) (fun _ h9 => h9) rfl dX10_at_92 ?_
      refine lv_iload_n hx hb dX10_at_95 rfl (lv_at hl 1 rfl) ?_
      refine z_zald hx hb hK.1 hP 11 1 rfl rfl j rfl (show j < 24 by omega) (by decide) dX10_at_96 ?_
      refine lv_if_eq (tgt := 104) hx hb dX10_at_97 (by decide) (fun c_3 => ?_) (fun c_3 => ?_)
      · skip
        refine lv_iconst (v := 0) hx hb dX10_at_104 (by decide) ?_
        exact ro_iret hx hb hr hlocks (by show (0 : Int32) = mXat S x y; unfold mXat; rw [ej, nI_cl (by omega)]; simp [c_1, c_2_5, c_2_0, c_2_1, c_2_2, c_2_3, c_2_4, c_3, ← Int32.not_le]) dX10_at_105
      · skip
        refine lv_iconst (v := 1) hx hb dX10_at_100 (by decide) ?_
        refine lv_goto (tgt := 105) hx hb dX10_at_101 (by decide) ?_
        exact ro_iret hx hb hr hlocks (by show (1 : Int32) = mXat S x y; unfold mXat; rw [ej, nI_cl (by omega)]; simp [c_1, c_2_5, c_2_0, c_2_1, c_2_2, c_2_3, c_2_4, c_3, ← Int32.not_le]) dX10_at_105
    refine lv_tableOut (tgt := 106) hx hb dX10_at_18 (zt_out05 y c_2_0 c_2_1 c_2_2 c_2_3 c_2_4 c_2_5) (by decide) ?_
    refine lv_bipush (v := (-3)) hx hb dX10_at_106 (by decide) ?_
    exact ro_iret hx hb hr hlocks (by show ((-3) : Int32) = mXat S x y; unfold mXat; rw [ej, nI_cl (by omega)]; simp [c_1, c_2_0, c_2_1, c_2_2, c_2_3, c_2_4, c_2_5, ← Int32.not_le]) dX10_at_108
  · skip
    have c_1 := zb_eq0 c_1
    refine lv_bipush (v := (-2)) hx hb dX10_at_14 (by decide) ?_
    exact ro_iret hx hb hr hlocks (by show ((-2) : Int32) = mXat S x y; unfold mXat; simp [c_1, ← Int32.not_le]) dX10_at_16

def mXset (q : TQ) (ro : TR) (t : TT) (x y : Int32) : Int32 × TQ × TR × TT :=
  if 0 ≤ x ∧ x ≤ 2 then if (if x = 2 then 1 else 0) ≤ y ∧ y ≤ (if x = 2 then 40 else 9) then ((if x = 0 then q.2.2 else if x = 1 then ro.2.2 else t.2.2.2.2), (q.1, q.2.1, if x = 0 then y else q.2.2), (ro.1, ro.2.1, if x = 1 then y else ro.2.2), (t.1, t.2.1, t.2.2.1, t.2.2.2.1, if x = 2 then y else t.2.2.2.2)) else (-3, q, ro, t) else (-3, q, ro, t)
set_option maxHeartbeats 4000000 in
set_option maxRecDepth 100000 in
theorem c_X10_set (l : Launch) (D : va_G) (cI cZ : ClassId) (am : Nat → Nat) (N : TN) (hN16 : N_n N ≤ 16) (S : TS) (hS24 : S_n S ≤ 24) (q : TQ) (o : TO) (ho8 : o.1 ≤ 8) (ro : TR) (hr10 : ro.1 ≤ 10) (t : TT) (ht6 : t.1 ≤ 6) (fo : TF) (hf5 : fo.1 ≤ 5) (k : TC) (hk8 : k.2.1 ≤ 8) (z : TZ) (x y : Int32) : MI l D cI cZ yX10_set wyX10_set ({ frames := 1, cells := 0, slots := 0, locals := 22 } : Room) [.ref (am 0), .int x, .int y] (wM am cI cZ N S q o ro t fo k z) (fun r u => (r, u) = mXset q ro t x y) (fun (u : TQ × TR × TT) => wM am cI cZ N S u.1 o u.2.1 u.2.2 fo k z) := by
  refine Met.ofW (cc := cX10_set) (maxL := 4) (ret := (some .int)) (by decide) rfl ?_
  intro p e s m args below meth c s₁ B hml hv
  obtain ⟨rfl, hK, hP, hD0⟩ := hv
  have hx := B.exec
  have hb := B.bytes
  have hr := B.returns
  have hts0 := atoms_spec (ws := wyX10_set) B.pre
  have hts : ∀ w ∈ big, w.before _ s = true := fun w h => hts0 w (List.mem_cons_of_mem _ h)
  have hown : s.vm.findClass RX10 = some m.cls := findClass_of_methodNamed B.named
  have hlocks := B.notSynchronized
  have hD := D_inW hD0
  have hS : va_S (inW (wM am cI cZ N S q o ro t fo k z)) s.heap s.heap [] := va_S.rf
  have hl := lv_entry ([.ref (am 0), .int x, .int y]) (n := 4) (Nat.le_of_ble_eq_true rfl)
  rw [lg_entry_eq]
  generalize (lg_sl ([.ref (am 0), .int x, .int y]) ++ List.replicate (4 - (lg_sl ([.ref (am 0), .int x, .int y])).length) Slot.unset).toArray = ls at hl ⊢
  have hl : lv_has ls 4 [(0, .ref (am 0)), (1, .int x), (2, .int y)] := hl
  refine lv_iload_n hx hb dX10_set_0 rfl (lv_at hl 1 rfl) ?_
  refine lv_iconst (v := 0) hx hb dX10_set_1 (by decide) ?_
  refine lv_iconst (v := 2) hx hb dX10_set_2 (by decide) ?_
  refine ro_S (As := [.int x, .int 0, .int 2]) (rest := []) ⟨hx, hb, hml, hown, hts⟩ (c_X10_in l D cI cZ  x 0 2) (cw_X10_90 hts rfl rfl ⟨Nat.le_of_ble_eq_true rfl, Nat.le_of_ble_eq_true rfl⟩) hK P_nil rfl hl.1 rfl (Nat.le_of_ble_eq_true rfl) dX10_set_3 ⟨Nat.zero_le _, Nat.zero_le _⟩ ?_
  refine lv_if_eq (tgt := 38) hx hb dX10_set_6 (by decide) (fun c_1 => ?_) (fun c_1 => ?_)
  · skip
    have c_1 := zb_eq0 c_1
    refine lv_bipush (v := (-3)) hx hb dX10_set_38 (by decide) ?_
    exact mu_iret (v := (-3)) hx hb hr hlocks ((q, ro, t)) (by show (((-3) : Int32), (q, ro, t)) = mXset q ro t x y; unfold mXset; (first | rw [if_pos c_1] | rw [if_neg c_1] | skip); (try rfl)) (hP) hS dX10_set_40
  · skip
    have c_1 := zb_ne0 c_1
    refine lv_iload_n hx hb dX10_set_9 rfl (lv_at hl 2 rfl) ?_
    refine w_join (α := Int32) (fun a9 => a9 = (if x = 2 then 1 else 0)) (fun a9 => [(0, .ref (am 0)), (1, .int x), (2, .int y)]) (fun a9 => [.int a9, .int y]) 20 4 (fun hJ_20 => ?_) ?_
    · skip
      refine lv_iload_n hx hb dX10_set_10 rfl (lv_at hl 1 rfl) ?_
      refine lv_iconst (v := 2) hx hb dX10_set_11 (by decide) ?_
      refine lv_icmp_ne (tgt := 19) hx hb dX10_set_12 (by decide) (fun c_2 => ?_) (fun c_2 => ?_)
      · skip
        refine lv_iconst (v := 0) hx hb dX10_set_19 (by decide) ?_
        exact hJ_20 0 ls (show 0 = (if x = 2 then 1 else 0) from by first | exact (if_pos c_2).symm | exact (if_neg c_2).symm) (show lv_has ls 4 [(0, .ref (am 0)), (1, .int x), (2, .int y)] from lv_sub hl [0, 1, 2] rfl)
      · skip
        refine lv_iconst (v := 1) hx hb dX10_set_15 (by decide) ?_
        refine lv_goto (tgt := 20) hx hb dX10_set_16 (by decide) ?_
        exact hJ_20 1 ls (show 1 = (if x = 2 then 1 else 0) from by first | exact (if_pos c_2).symm | exact (if_neg c_2).symm) (show lv_has ls 4 [(0, .ref (am 0)), (1, .int x), (2, .int y)] from lv_sub hl [0, 1, 2] rfl)
    · skip
      intro a9 ls hI hl
      obtain ⟨u, rfl⟩ : ∃ z, z = a9 := ⟨a9, rfl⟩
      have hI : u = (if x = 2 then 1 else 0) := hI
      subst hI
      have hl : lv_has ls 4 [(0, .ref (am 0)), (1, .int x), (2, .int y)] := hl
      refine w_join (α := Int32) (fun a9 => a9 = (if x = 2 then 40 else 9)) (fun a9 => [(0, .ref (am 0)), (1, .int x), (2, .int y)]) (fun a9 => [.int a9, .int (if x = 2 then 1 else 0), .int y]) 32 4 (fun hJ_32 => ?_) ?_
      · skip
        refine lv_iload_n hx hb dX10_set_20 rfl (lv_at hl 1 rfl) ?_
        refine lv_iconst (v := 2) hx hb dX10_set_21 (by decide) ?_
        refine lv_icmp_ne (tgt := 30) hx hb dX10_set_22 (by decide) (fun c_3 => ?_) (fun c_3 => ?_)
        · skip
          refine lv_bipush (v := 9) hx hb dX10_set_30 (by decide) ?_
          exact hJ_32 9 ls (show 9 = (if x = 2 then 40 else 9) from by first | exact (if_pos c_3).symm | exact (if_neg c_3).symm) (show lv_has ls 4 [(0, .ref (am 0)), (1, .int x), (2, .int y)] from lv_sub hl [0, 1, 2] rfl)
        · skip
          refine lv_bipush (v := 40) hx hb dX10_set_25 (by decide) ?_
          refine lv_goto (tgt := 32) hx hb dX10_set_27 (by decide) ?_
          exact hJ_32 40 ls (show 40 = (if x = 2 then 40 else 9) from by first | exact (if_pos c_3).symm | exact (if_neg c_3).symm) (show lv_has ls 4 [(0, .ref (am 0)), (1, .int x), (2, .int y)] from lv_sub hl [0, 1, 2] rfl)
      · skip
        intro a9 ls hI hl
        obtain ⟨u, rfl⟩ : ∃ z, z = a9 := ⟨a9, rfl⟩
        have hI : u = (if x = 2 then 40 else 9) := hI
        subst hI
        have hl : lv_has ls 4 [(0, .ref (am 0)), (1, .int x), (2, .int y)] := hl
        refine ro_S (As := [.int y, .int (if x = 2 then 1 else 0), .int (if x = 2 then 40 else 9)]) (rest := []) ⟨hx, hb, hml, hown, hts⟩ (c_X10_in l D cI cZ  y (if x = 2 then 1 else 0) (if x = 2 then 40 else 9)) (cw_X10_90 hts rfl rfl ⟨Nat.le_of_ble_eq_true rfl, Nat.le_of_ble_eq_true rfl⟩) hK P_nil rfl hl.1 rfl (Nat.le_of_ble_eq_true rfl) dX10_set_32 ⟨Nat.zero_le _, Nat.zero_le _⟩ ?_
        refine lv_if_ne (tgt := 41) hx hb dX10_set_35 (by decide) (fun c_4 => ?_) (fun c_4 => ?_)
        · skip
          have c_4 := zb_ne0 c_4
          refine lv_iload_n hx hb dX10_set_41 rfl (lv_at hl 1 rfl) ?_
          refine lv_if_ne (tgt := 52) hx hb dX10_set_42 (by decide) (fun c_5 => ?_) (fun c_5 => ?_)
          · skip
            refine lv_iload_n hx hb dX10_set_52 rfl (lv_at hl 1 rfl) ?_
            refine lv_iconst (v := 1) hx hb dX10_set_53 (by decide) ?_
            refine lv_icmp_ne (tgt := 64) hx hb dX10_set_54 (by decide) (fun c_6 => ?_) (fun c_6 => ?_)
            · skip
              refine lv_aload_n hx hb dX10_set_64 rfl (lv_at hl 0 rfl) ?_
              refine va_get (D := D) (ci := 10) (v := .int t.2.2.2.2) (C := RX10) (T := TX10) (N := 41) hx hb hts hin10 hown hK.1 hP 0 rfl rfl 17 (by decide) (hts _ fl_X10_44) (fun _ h9 => h9) rfl dX10_set_65 ?_
              refine lv_istore_n (lv' := [(3, .int t.2.2.2.2), (0, .ref (am 0)), (1, .int x), (2, .int y)]) hx hb dX10_set_68 rfl hl (by decide) rfl (fun ls hl => ?_)
              refine lv_aload_n hx hb dX10_set_69 rfl (lv_at hl 1 rfl) ?_
              refine lv_iload_n hx hb dX10_set_70 rfl (lv_at hl 2 rfl) ?_
              refine lv_if_ne (tgt := 78) hx hb dX10_set_71 (by decide) (fun c_7 => ?_) (fun c_7 => ?_)
              · skip
                refine lv_aload_n hx hb dX10_set_78 rfl (lv_at hl 1 rfl) ?_
                refine va_get (D := D) (ci := 10) (v := .int q.2.2) (C := RX10) (T := TX10) (N := 41) hx hb hts hin10 hown hK.1 hP 0 rfl rfl 15 (by decide) (hts _ fl_X10_122) (fun _ h9 => h9) rfl dX10_set_79 ?_
                refine va_put (D := D) (ci := 10) (v := .int q.2.2) (ty := .int) (C := RX10) (T := TX10) (N := 41) hx hb hts hin10 tyX10 tyX10_ok nmX10 hown hK.1 hP hD hS 0 rfl rfl 15 (by decide) (hts _ fl_X10_122) (fun _ h9 => h9) rfl (by decide +kernel) rfl rfl (Nat.le_of_ble_eq_true rfl) dX10_set_82 (fun H locs hP hD hS => ?_)
                have hP : va_P D vwCl (wM am cI cZ N S (q.1, q.2.1, q.2.2) o ro t fo k z) H := hP
                have hD : va_D _ (wM am cI cZ N S (q.1, q.2.1, q.2.2) o ro t fo k z) := hD
                refine lv_aload_n hx hb dX10_set_85 rfl (lv_at hl 1 rfl) ?_
                refine lv_iload_n hx hb dX10_set_86 rfl (lv_at hl 2 rfl) ?_
                refine lv_iconst (v := 1) hx hb dX10_set_87 (by decide) ?_
                refine lv_icmp_ne (tgt := 95) hx hb dX10_set_88 (by decide) (fun c_8 => ?_) (fun c_8 => ?_)
                · skip
                  refine lv_aload_n hx hb dX10_set_95 rfl (lv_at hl 1 rfl) ?_
                  refine va_get (D := D) (ci := 10) (v := .int ro.2.2) (C := RX10) (T := TX10) (N := 41) hx hb hts hin10 hown hK.1 hP 0 rfl rfl 16 (by decide) (hts _ fl_X10_125) (fun _ h9 => h9) rfl dX10_set_96 ?_
                  refine va_put (D := D) (ci := 10) (v := .int ro.2.2) (ty := .int) (C := RX10) (T := TX10) (N := 41) hx hb hts hin10 tyX10 tyX10_ok nmX10 hown hK.1 hP hD hS 0 rfl rfl 16 (by decide) (hts _ fl_X10_125) (fun _ h9 => h9) rfl (by decide +kernel) rfl rfl (Nat.le_of_ble_eq_true rfl) dX10_set_99 (fun H locs hP hD hS => ?_)
                  have hP : va_P D vwCl (wM am cI cZ N S (q.1, q.2.1, q.2.2) o (ro.1, ro.2.1, ro.2.2) t fo k z) H := hP
                  have hD : va_D _ (wM am cI cZ N S (q.1, q.2.1, q.2.2) o (ro.1, ro.2.1, ro.2.2) t fo k z) := hD
                  refine lv_aload_n hx hb dX10_set_102 rfl (lv_at hl 1 rfl) ?_
                  refine lv_iload_n hx hb dX10_set_103 rfl (lv_at hl 2 rfl) ?_
                  refine lv_iconst (v := 2) hx hb dX10_set_104 (by decide) ?_
                  refine lv_icmp_ne (tgt := 112) hx hb dX10_set_105 (by decide) (fun c_9 => ?_) (fun c_9 => ?_)
                  · skip
                    refine lv_aload_n hx hb dX10_set_112 rfl (lv_at hl 1 rfl) ?_
                    refine va_get (D := D) (ci := 10) (v := .int t.2.2.2.2) (C := RX10) (T := TX10) (N := 41) hx hb hts hin10 hown hK.1 hP 0 rfl rfl 17 (by decide) (hts _ fl_X10_44) (fun _ h9 => h9) rfl dX10_set_113 ?_
                    refine va_put (D := D) (ci := 10) (v := .int t.2.2.2.2) (ty := .int) (C := RX10) (T := TX10) (N := 41) hx hb hts hin10 tyX10 tyX10_ok nmX10 hown hK.1 hP hD hS 0 rfl rfl 17 (by decide) (hts _ fl_X10_44) (fun _ h9 => h9) rfl (by decide +kernel) rfl rfl (Nat.le_of_ble_eq_true rfl) dX10_set_116 (fun H locs hP hD hS => ?_)
                    have hP : va_P D vwCl (wM am cI cZ N S (q.1, q.2.1, q.2.2) o (ro.1, ro.2.1, ro.2.2) (t.1, t.2.1, t.2.2.1, t.2.2.2.1, t.2.2.2.2) fo k z) H := hP
                    have hD : va_D _ (wM am cI cZ N S (q.1, q.2.1, q.2.2) o (ro.1, ro.2.1, ro.2.2) (t.1, t.2.1, t.2.2.1, t.2.2.2.1, t.2.2.2.2) fo k z) := hD
                    refine lv_iload_n hx hb dX10_set_119 rfl (lv_at hl 0 rfl) ?_
                    exact mu_iret (v := t.2.2.2.2) hx hb hr hlocks (((q.1, q.2.1, q.2.2), (ro.1, ro.2.1, ro.2.2), (t.1, t.2.1, t.2.2.1, t.2.2.2.1, t.2.2.2.2))) (by show ((t.2.2.2.2 : Int32), ((q.1, q.2.1, q.2.2), (ro.1, ro.2.1, ro.2.2), (t.1, t.2.1, t.2.2.1, t.2.2.2.1, t.2.2.2.2))) = mXset q ro t x y; unfold mXset; rw [if_pos c_1, if_pos c_4]; simp [c_5, c_6, c_7, c_8, c_9]) (hP) hS dX10_set_120
                  · skip
                    refine lv_iload_n hx hb dX10_set_108 rfl (lv_at hl 3 rfl) ?_
                    refine lv_goto (tgt := 116) hx hb dX10_set_109 (by decide) ?_
                    refine va_put (D := D) (ci := 10) (v := .int y) (ty := .int) (C := RX10) (T := TX10) (N := 41) hx hb hts hin10 tyX10 tyX10_ok nmX10 hown hK.1 hP hD hS 0 rfl rfl 17 (by decide) (hts _ fl_X10_44) (fun _ h9 => h9) rfl (by decide +kernel) rfl rfl (Nat.le_of_ble_eq_true rfl) dX10_set_116 (fun H locs hP hD hS => ?_)
                    have hP : va_P D vwCl (wM am cI cZ N S (q.1, q.2.1, q.2.2) o (ro.1, ro.2.1, ro.2.2) (t.1, t.2.1, t.2.2.1, t.2.2.2.1, y) fo k z) H := hP
                    have hD : va_D _ (wM am cI cZ N S (q.1, q.2.1, q.2.2) o (ro.1, ro.2.1, ro.2.2) (t.1, t.2.1, t.2.2.1, t.2.2.2.1, y) fo k z) := hD
                    refine lv_iload_n hx hb dX10_set_119 rfl (lv_at hl 0 rfl) ?_
                    exact mu_iret (v := t.2.2.2.2) hx hb hr hlocks (((q.1, q.2.1, q.2.2), (ro.1, ro.2.1, ro.2.2), (t.1, t.2.1, t.2.2.1, t.2.2.2.1, y))) (by show ((t.2.2.2.2 : Int32), ((q.1, q.2.1, q.2.2), (ro.1, ro.2.1, ro.2.2), (t.1, t.2.1, t.2.2.1, t.2.2.2.1, y))) = mXset q ro t x y; unfold mXset; rw [if_pos c_1, if_pos c_4]; simp [c_5, c_6, c_7, c_8, c_9]) (hP) hS dX10_set_120
                · skip
                  exact absurd c_8 c_6
              · skip
                exact absurd c_7 c_5
            · skip
              refine lv_aload_n hx hb dX10_set_57 rfl (lv_at hl 0 rfl) ?_
              refine va_get (D := D) (ci := 10) (v := .int ro.2.2) (C := RX10) (T := TX10) (N := 41) hx hb hts hin10 hown hK.1 hP 0 rfl rfl 16 (by decide) (hts _ fl_X10_125) (fun _ h9 => h9) rfl dX10_set_58 ?_
              refine lv_goto (tgt := 68) hx hb dX10_set_61 (by decide) ?_
              refine lv_istore_n (lv' := [(3, .int ro.2.2), (0, .ref (am 0)), (1, .int x), (2, .int y)]) hx hb dX10_set_68 rfl hl (by decide) rfl (fun ls hl => ?_)
              refine lv_aload_n hx hb dX10_set_69 rfl (lv_at hl 1 rfl) ?_
              refine lv_iload_n hx hb dX10_set_70 rfl (lv_at hl 2 rfl) ?_
              refine lv_if_ne (tgt := 78) hx hb dX10_set_71 (by decide) (fun c_10 => ?_) (fun c_10 => ?_)
              · skip
                refine lv_aload_n hx hb dX10_set_78 rfl (lv_at hl 1 rfl) ?_
                refine va_get (D := D) (ci := 10) (v := .int q.2.2) (C := RX10) (T := TX10) (N := 41) hx hb hts hin10 hown hK.1 hP 0 rfl rfl 15 (by decide) (hts _ fl_X10_122) (fun _ h9 => h9) rfl dX10_set_79 ?_
                refine va_put (D := D) (ci := 10) (v := .int q.2.2) (ty := .int) (C := RX10) (T := TX10) (N := 41) hx hb hts hin10 tyX10 tyX10_ok nmX10 hown hK.1 hP hD hS 0 rfl rfl 15 (by decide) (hts _ fl_X10_122) (fun _ h9 => h9) rfl (by decide +kernel) rfl rfl (Nat.le_of_ble_eq_true rfl) dX10_set_82 (fun H locs hP hD hS => ?_)
                have hP : va_P D vwCl (wM am cI cZ N S (q.1, q.2.1, q.2.2) o ro t fo k z) H := hP
                have hD : va_D _ (wM am cI cZ N S (q.1, q.2.1, q.2.2) o ro t fo k z) := hD
                refine lv_aload_n hx hb dX10_set_85 rfl (lv_at hl 1 rfl) ?_
                refine lv_iload_n hx hb dX10_set_86 rfl (lv_at hl 2 rfl) ?_
                refine lv_iconst (v := 1) hx hb dX10_set_87 (by decide) ?_
                refine lv_icmp_ne (tgt := 95) hx hb dX10_set_88 (by decide) (fun c_11 => ?_) (fun c_11 => ?_)
                · skip
                  exact absurd c_6 c_11
                · skip
                  refine lv_iload_n hx hb dX10_set_91 rfl (lv_at hl 3 rfl) ?_
                  refine lv_goto (tgt := 99) hx hb dX10_set_92 (by decide) ?_
                  refine va_put (D := D) (ci := 10) (v := .int y) (ty := .int) (C := RX10) (T := TX10) (N := 41) hx hb hts hin10 tyX10 tyX10_ok nmX10 hown hK.1 hP hD hS 0 rfl rfl 16 (by decide) (hts _ fl_X10_125) (fun _ h9 => h9) rfl (by decide +kernel) rfl rfl (Nat.le_of_ble_eq_true rfl) dX10_set_99 (fun H locs hP hD hS => ?_)
                  have hP : va_P D vwCl (wM am cI cZ N S (q.1, q.2.1, q.2.2) o (ro.1, ro.2.1, y) t fo k z) H := hP
                  have hD : va_D _ (wM am cI cZ N S (q.1, q.2.1, q.2.2) o (ro.1, ro.2.1, y) t fo k z) := hD
                  refine lv_aload_n hx hb dX10_set_102 rfl (lv_at hl 1 rfl) ?_
                  refine lv_iload_n hx hb dX10_set_103 rfl (lv_at hl 2 rfl) ?_
                  refine lv_iconst (v := 2) hx hb dX10_set_104 (by decide) ?_
                  refine lv_icmp_ne (tgt := 112) hx hb dX10_set_105 (by decide) (fun c_12 => ?_) (fun c_12 => ?_)
                  · skip
                    refine lv_aload_n hx hb dX10_set_112 rfl (lv_at hl 1 rfl) ?_
                    refine va_get (D := D) (ci := 10) (v := .int t.2.2.2.2) (C := RX10) (T := TX10) (N := 41) hx hb hts hin10 hown hK.1 hP 0 rfl rfl 17 (by decide) (hts _ fl_X10_44) (fun _ h9 => h9) rfl dX10_set_113 ?_
                    refine va_put (D := D) (ci := 10) (v := .int t.2.2.2.2) (ty := .int) (C := RX10) (T := TX10) (N := 41) hx hb hts hin10 tyX10 tyX10_ok nmX10 hown hK.1 hP hD hS 0 rfl rfl 17 (by decide) (hts _ fl_X10_44) (fun _ h9 => h9) rfl (by decide +kernel) rfl rfl (Nat.le_of_ble_eq_true rfl) dX10_set_116 (fun H locs hP hD hS => ?_)
                    have hP : va_P D vwCl (wM am cI cZ N S (q.1, q.2.1, q.2.2) o (ro.1, ro.2.1, y) (t.1, t.2.1, t.2.2.1, t.2.2.2.1, t.2.2.2.2) fo k z) H := hP
                    have hD : va_D _ (wM am cI cZ N S (q.1, q.2.1, q.2.2) o (ro.1, ro.2.1, y) (t.1, t.2.1, t.2.2.1, t.2.2.2.1, t.2.2.2.2) fo k z) := hD
                    refine lv_iload_n hx hb dX10_set_119 rfl (lv_at hl 0 rfl) ?_
                    exact mu_iret (v := ro.2.2) hx hb hr hlocks (((q.1, q.2.1, q.2.2), (ro.1, ro.2.1, y), (t.1, t.2.1, t.2.2.1, t.2.2.2.1, t.2.2.2.2))) (by show ((ro.2.2 : Int32), ((q.1, q.2.1, q.2.2), (ro.1, ro.2.1, y), (t.1, t.2.1, t.2.2.1, t.2.2.2.1, t.2.2.2.2))) = mXset q ro t x y; unfold mXset; rw [if_pos c_1, if_pos c_4]; simp [c_5, c_6, c_10, c_11, c_12]) (hP) hS dX10_set_120
                  · skip
                    exact absurd (c_6.symm.trans c_12) (by decide)
              · skip
                exact absurd (c_6.symm.trans c_10) (by decide)
          · skip
            refine lv_aload_n hx hb dX10_set_45 rfl (lv_at hl 0 rfl) ?_
            refine va_get (D := D) (ci := 10) (v := .int q.2.2) (C := RX10) (T := TX10) (N := 41) hx hb hts hin10 hown hK.1 hP 0 rfl rfl 15 (by decide) (hts _ fl_X10_122) (fun _ h9 => h9) rfl dX10_set_46 ?_
            refine lv_goto (tgt := 68) hx hb dX10_set_49 (by decide) ?_
            refine lv_istore_n (lv' := [(3, .int q.2.2), (0, .ref (am 0)), (1, .int x), (2, .int y)]) hx hb dX10_set_68 rfl hl (by decide) rfl (fun ls hl => ?_)
            refine lv_aload_n hx hb dX10_set_69 rfl (lv_at hl 1 rfl) ?_
            refine lv_iload_n hx hb dX10_set_70 rfl (lv_at hl 2 rfl) ?_
            refine lv_if_ne (tgt := 78) hx hb dX10_set_71 (by decide) (fun c_13 => ?_) (fun c_13 => ?_)
            · skip
              exact absurd c_5 c_13
            · skip
              refine lv_iload_n hx hb dX10_set_74 rfl (lv_at hl 3 rfl) ?_
              refine lv_goto (tgt := 82) hx hb dX10_set_75 (by decide) ?_
              refine va_put (D := D) (ci := 10) (v := .int y) (ty := .int) (C := RX10) (T := TX10) (N := 41) hx hb hts hin10 tyX10 tyX10_ok nmX10 hown hK.1 hP hD hS 0 rfl rfl 15 (by decide) (hts _ fl_X10_122) (fun _ h9 => h9) rfl (by decide +kernel) rfl rfl (Nat.le_of_ble_eq_true rfl) dX10_set_82 (fun H locs hP hD hS => ?_)
              have hP : va_P D vwCl (wM am cI cZ N S (q.1, q.2.1, y) o ro t fo k z) H := hP
              have hD : va_D _ (wM am cI cZ N S (q.1, q.2.1, y) o ro t fo k z) := hD
              refine lv_aload_n hx hb dX10_set_85 rfl (lv_at hl 1 rfl) ?_
              refine lv_iload_n hx hb dX10_set_86 rfl (lv_at hl 2 rfl) ?_
              refine lv_iconst (v := 1) hx hb dX10_set_87 (by decide) ?_
              refine lv_icmp_ne (tgt := 95) hx hb dX10_set_88 (by decide) (fun c_14 => ?_) (fun c_14 => ?_)
              · skip
                refine lv_aload_n hx hb dX10_set_95 rfl (lv_at hl 1 rfl) ?_
                refine va_get (D := D) (ci := 10) (v := .int ro.2.2) (C := RX10) (T := TX10) (N := 41) hx hb hts hin10 hown hK.1 hP 0 rfl rfl 16 (by decide) (hts _ fl_X10_125) (fun _ h9 => h9) rfl dX10_set_96 ?_
                refine va_put (D := D) (ci := 10) (v := .int ro.2.2) (ty := .int) (C := RX10) (T := TX10) (N := 41) hx hb hts hin10 tyX10 tyX10_ok nmX10 hown hK.1 hP hD hS 0 rfl rfl 16 (by decide) (hts _ fl_X10_125) (fun _ h9 => h9) rfl (by decide +kernel) rfl rfl (Nat.le_of_ble_eq_true rfl) dX10_set_99 (fun H locs hP hD hS => ?_)
                have hP : va_P D vwCl (wM am cI cZ N S (q.1, q.2.1, y) o (ro.1, ro.2.1, ro.2.2) t fo k z) H := hP
                have hD : va_D _ (wM am cI cZ N S (q.1, q.2.1, y) o (ro.1, ro.2.1, ro.2.2) t fo k z) := hD
                refine lv_aload_n hx hb dX10_set_102 rfl (lv_at hl 1 rfl) ?_
                refine lv_iload_n hx hb dX10_set_103 rfl (lv_at hl 2 rfl) ?_
                refine lv_iconst (v := 2) hx hb dX10_set_104 (by decide) ?_
                refine lv_icmp_ne (tgt := 112) hx hb dX10_set_105 (by decide) (fun c_15 => ?_) (fun c_15 => ?_)
                · skip
                  refine lv_aload_n hx hb dX10_set_112 rfl (lv_at hl 1 rfl) ?_
                  refine va_get (D := D) (ci := 10) (v := .int t.2.2.2.2) (C := RX10) (T := TX10) (N := 41) hx hb hts hin10 hown hK.1 hP 0 rfl rfl 17 (by decide) (hts _ fl_X10_44) (fun _ h9 => h9) rfl dX10_set_113 ?_
                  refine va_put (D := D) (ci := 10) (v := .int t.2.2.2.2) (ty := .int) (C := RX10) (T := TX10) (N := 41) hx hb hts hin10 tyX10 tyX10_ok nmX10 hown hK.1 hP hD hS 0 rfl rfl 17 (by decide) (hts _ fl_X10_44) (fun _ h9 => h9) rfl (by decide +kernel) rfl rfl (Nat.le_of_ble_eq_true rfl) dX10_set_116 (fun H locs hP hD hS => ?_)
                  have hP : va_P D vwCl (wM am cI cZ N S (q.1, q.2.1, y) o (ro.1, ro.2.1, ro.2.2) (t.1, t.2.1, t.2.2.1, t.2.2.2.1, t.2.2.2.2) fo k z) H := hP
                  have hD : va_D _ (wM am cI cZ N S (q.1, q.2.1, y) o (ro.1, ro.2.1, ro.2.2) (t.1, t.2.1, t.2.2.1, t.2.2.2.1, t.2.2.2.2) fo k z) := hD
                  refine lv_iload_n hx hb dX10_set_119 rfl (lv_at hl 0 rfl) ?_
                  exact mu_iret (v := q.2.2) hx hb hr hlocks (((q.1, q.2.1, y), (ro.1, ro.2.1, ro.2.2), (t.1, t.2.1, t.2.2.1, t.2.2.2.1, t.2.2.2.2))) (by show ((q.2.2 : Int32), ((q.1, q.2.1, y), (ro.1, ro.2.1, ro.2.2), (t.1, t.2.1, t.2.2.1, t.2.2.2.1, t.2.2.2.2))) = mXset q ro t x y; unfold mXset; rw [if_pos c_1, if_pos c_4]; simp [c_5, c_13, c_14, c_15]) (hP) hS dX10_set_120
                · skip
                  exact absurd (c_5.symm.trans c_15) (by decide)
              · skip
                exact absurd (c_5.symm.trans c_14) (by decide)
        · skip
          have c_4 := zb_eq0 c_4
          refine lv_bipush (v := (-3)) hx hb dX10_set_38 (by decide) ?_
          exact mu_iret (v := (-3)) hx hb hr hlocks ((q, ro, t)) (by show (((-3) : Int32), (q, ro, t)) = mXset q ro t x y; unfold mXset; (first | rw [if_pos c_1] | rw [if_neg c_1] | skip); (first | rw [if_pos c_4] | rw [if_neg c_4] | skip); (try rfl)) (hP) hS dX10_set_40

def mXroute (N : TN) (ro : TR) (x : Int32) : Int32 × TR := if 0 ≤ x ∧ x ≤ 9 then if hasB ro.2.1 x ro.1 = true then (-4, ro) else if 0 < ro.1 ∧ mJo N (ro.2.1 (ro.1 - 1)) x (N_n N) = -1 then (-4, ro) else if nI ro.1 = 10 then (-5, ro) else (nI (ro.1 + 1), (ro.1 + 1, upd ro.2.1 ro.1 x, ro.2.2)) else (-2, ro)
set_option maxHeartbeats 4000000 in
set_option maxRecDepth 100000 in
theorem c_X10_route (l : Launch) (D : va_G) (cI cZ : ClassId) (am : Nat → Nat) (N : TN) (hN16 : N_n N ≤ 16) (S : TS) (hS24 : S_n S ≤ 24) (q : TQ) (o : TO) (ho8 : o.1 ≤ 8) (ro : TR) (hr10 : ro.1 ≤ 10) (t : TT) (ht6 : t.1 ≤ 6) (fo : TF) (hf5 : fo.1 ≤ 5) (k : TC) (hk8 : k.2.1 ≤ 8) (z : TZ) (x : Int32) : MI l D cI cZ yX10_route wyX10_route ({ frames := 3, cells := 0, slots := 0, locals := 68 } : Room) [.ref (am 0), .int x] (wM am cI cZ N S q o ro t fo k z) (fun r u => (r, u) = mXroute N ro x) (fun (u : TR) => wM am cI cZ N S q o u t fo k z) := by
  refine Met.ofW (cc := cX10_route) (maxL := 3) (ret := (some .int)) (by decide) rfl ?_
  intro p e s m args below meth c s₁ B hml hv
  obtain ⟨rfl, hK, hP, hD0⟩ := hv
  have hx := B.exec
  have hb := B.bytes
  have hr := B.returns
  have hts0 := atoms_spec (ws := wyX10_route) B.pre
  have hts : ∀ w ∈ big, w.before _ s = true := fun w h => hts0 w (List.mem_cons_of_mem _ h)
  have hown : s.vm.findClass RX10 = some m.cls := findClass_of_methodNamed B.named
  have hlocks := B.notSynchronized
  have hD := D_inW hD0
  have hS : va_S (inW (wM am cI cZ N S q o ro t fo k z)) s.heap s.heap [] := va_S.rf
  have hl := lv_entry ([.ref (am 0), .int x]) (n := 3) (Nat.le_of_ble_eq_true rfl)
  rw [lg_entry_eq]
  generalize (lg_sl ([.ref (am 0), .int x]) ++ List.replicate (3 - (lg_sl ([.ref (am 0), .int x])).length) Slot.unset).toArray = ls at hl ⊢
  have hl : lv_has ls 3 [(0, .ref (am 0)), (1, .int x)] := hl
  refine lv_iload_n hx hb dX10_route_0 rfl (lv_at hl 1 rfl) ?_
  refine ro_S (As := [.int x]) (rest := []) ⟨hx, hb, hml, hown, hts⟩ (c_X10_isPlace l D cI cZ  x) (cw_X10_101 hts rfl rfl ⟨Nat.le_of_ble_eq_true rfl, Nat.le_of_ble_eq_true rfl⟩) hK P_nil rfl hl.1 rfl (Nat.le_of_ble_eq_true rfl) dX10_route_1 ⟨Nat.zero_le _, Nat.zero_le _⟩ ?_
  refine lv_if_ne (tgt := 10) hx hb dX10_route_4 (by decide) (fun c_1 => ?_) (fun c_1 => ?_)
  · skip
    have c_1 := zb_ne0 c_1
    refine lv_iconst (v := 0) hx hb dX10_route_10 (by decide) ?_
    refine lv_istore_n (lv' := [(2, .int 0), (0, .ref (am 0)), (1, .int x)]) hx hb dX10_route_11 rfl hl (by decide) rfl (fun ls hl => ?_)
    refine w_loopH (α := Nat) (fun a9 => a9 ≤ ro.1 ∧ hasB ro.2.1 x a9 = false) (fun a9 => ro.1 - a9) (fun a9 => wM am cI cZ N S q o ro t fo k z) (fun a9 => [(0, .ref (am 0)), (1, .int x), (2, .int (nI a9))]) 12 3 ?_ 0 (⟨Nat.zero_le _, rfl⟩) (show lv_has ls 3 [(0, .ref (am 0)), (1, .int x), (2, .int (nI 0))] from lv_sub hl [1, 2, 0] rfl) hP hD hS
    intro a9 ls H locs hI hl hP hD hS ih_12
    obtain ⟨i, rfl⟩ : ∃ z, z = a9 := ⟨a9, rfl⟩
    have hI : i ≤ ro.1 ∧ hasB ro.2.1 x i = false := hI
    have hl : lv_has ls 3 [(0, .ref (am 0)), (1, .int x), (2, .int (nI i))] := hl
    have hP : va_P D vwCl (wM am cI cZ N S q o ro t fo k z) H := hP
    have hD : va_D _ (wM am cI cZ N S q o ro t fo k z) := hD
    refine lv_iload_n hx hb dX10_route_12 rfl (lv_at hl 2 rfl) ?_
    refine lv_aload_n hx hb dX10_route_13 rfl (lv_at hl 0 rfl) ?_
    refine va_get (D := D) (ci := 10) (v := .int (nI ro.1)) (C := RX10) (T := TX10) (N := 41) hx hb hts hin10 hown hK.1 hP 0 rfl rfl 26 (by decide) (hts _ fl_X10_162) (fun _ h9 => h9) rfl dX10_route_14 ?_
    refine lv_icmp_ge (tgt := 39) hx hb dX10_route_17 (by decide) (fun c_2 => ?_) (fun c_2 => ?_)
    · skip
      have hge : ro.1 ≤ i := zge (by have := hI.1; omega) (by omega) c_2
      have hno : hasB ro.2.1 x ro.1 = false := by rw [show ro.1 = i by have := hI.1; omega]; exact hI.2
      refine lv_aload_n hx hb dX10_route_39 rfl (lv_at hl 0 rfl) ?_
      refine va_get (D := D) (ci := 10) (v := .int (nI ro.1)) (C := RX10) (T := TX10) (N := 41) hx hb hts hin10 hown hK.1 hP 0 rfl rfl 26 (by decide) (hts _ fl_X10_162) (fun _ h9 => h9) rfl dX10_route_40 ?_
      refine lv_if_le (tgt := 69) hx hb dX10_route_43 (by decide) (fun c_3 => ?_) (fun c_3 => ?_)
      · skip
        have h0r : ¬ 0 < ro.1 := fun q9 => absurd (Int32.lt_of_lt_of_le (show (0 : Int32) < nI ro.1 from by rw [show (0 : Int32) = nI 0 from rfl]; exact nI_lt q9 (by omega)) c_3) (by decide)
        refine lv_aload_n hx hb dX10_route_69 rfl (lv_at hl 0 rfl) ?_
        refine va_get (D := D) (ci := 10) (v := .int (nI ro.1)) (C := RX10) (T := TX10) (N := 41) hx hb hts hin10 hown hK.1 hP 0 rfl rfl 26 (by decide) (hts _ fl_X10_162) (fun _ h9 => h9) rfl dX10_route_70 ?_
        refine lv_bipush (v := 10) hx hb dX10_route_73 (by decide) ?_
        refine lv_icmp_ne (tgt := 81) hx hb dX10_route_75 (by decide) (fun c_4 => ?_) (fun c_4 => ?_)
        · skip
          have hb9 : ro.1 < 10 := by have h9 : ro.1 ≠ 10 := fun q9 => c_4 (by rw [q9]; rfl); omega
          refine lv_aload_n hx hb dX10_route_81 rfl (lv_at hl 0 rfl) ?_
          refine va_get (D := D) (ci := 10) (v := .ref (am 16)) (C := RX10) (T := TX10) (N := 41) hx hb hts hin10 hown hK.1 hP 0 rfl rfl 27 (by decide) (hts _ fl_X10_60) (fun _ h9 => h9) rfl dX10_route_82 ?_
          refine lv_aload_n hx hb dX10_route_85 rfl (lv_at hl 0 rfl) ?_
          refine va_get (D := D) (ci := 10) (v := .int (nI ro.1)) (C := RX10) (T := TX10) (N := 41) hx hb hts hin10 hown hK.1 hP 0 rfl rfl 26 (by decide) (hts _ fl_X10_162) (fun _ h9 => h9) rfl dX10_route_86 ?_
          refine lv_iload_n hx hb dX10_route_89 rfl (lv_at hl 1 rfl) ?_
          refine z_iast hx hb hK.1 hP hD hS 16 0 rfl rfl ro.1 rfl hb9 (by decide)  dX10_route_90 (fun H locs hP hD hS => ?_)
          have hP : va_P D vwCl (wM am cI cZ N S q o (ro.1, (upd ro.2.1 ro.1 x), ro.2.2) t fo k z) H := hP
          have hD : va_D _ (wM am cI cZ N S q o (ro.1, (upd ro.2.1 ro.1 x), ro.2.2) t fo k z) := hD
          refine lv_aload_n hx hb dX10_route_91 rfl (lv_at hl 0 rfl) ?_
          refine lv_dup hx hb dX10_route_92 rfl ?_
          refine va_get (D := D) (ci := 10) (v := .int (nI ro.1)) (C := RX10) (T := TX10) (N := 41) hx hb hts hin10 hown hK.1 hP 0 rfl rfl 26 (by decide) (hts _ fl_X10_162) (fun _ h9 => h9) rfl dX10_route_93 ?_
          refine lv_iconst (v := 1) hx hb dX10_route_96 (by decide) ?_
          refine lv_iadd hx hb dX10_route_97 ?_
          rw [nI_1 ro.1]
          refine va_put (D := D) (ci := 10) (v := .int (nI (ro.1 + 1))) (ty := .int) (C := RX10) (T := TX10) (N := 41) hx hb hts hin10 tyX10 tyX10_ok nmX10 hown hK.1 hP hD hS 0 rfl rfl 26 (by decide) (hts _ fl_X10_162) (fun _ h9 => h9) rfl (by decide +kernel) rfl rfl (Nat.le_of_ble_eq_true rfl) dX10_route_98 (fun H locs hP hD hS => ?_)
          have hP : va_P D vwCl (wM am cI cZ N S q o ((ro.1 + 1), (upd ro.2.1 ro.1 x), ro.2.2) t fo k z) H := hP
          have hD : va_D _ (wM am cI cZ N S q o ((ro.1 + 1), (upd ro.2.1 ro.1 x), ro.2.2) t fo k z) := hD
          refine lv_aload_n hx hb dX10_route_101 rfl (lv_at hl 0 rfl) ?_
          refine va_get (D := D) (ci := 10) (v := .int (nI (ro.1 + 1))) (C := RX10) (T := TX10) (N := 41) hx hb hts hin10 hown hK.1 hP 0 rfl rfl 26 (by decide) (hts _ fl_X10_162) (fun _ h9 => h9) rfl dX10_route_102 ?_
          exact mu_iret (v := (nI (ro.1 + 1))) hx hb hr hlocks (((ro.1 + 1), (upd ro.2.1 ro.1 x), ro.2.2)) (by show (((nI (ro.1 + 1)) : Int32), ((ro.1 + 1), (upd ro.2.1 ro.1 x), ro.2.2)) = mXroute N ro x; unfold mXroute; rw [if_pos c_1, if_neg (by rw [hno]; decide)]; rw [if_neg (fun z9 => h0r z9.1)]; rw [if_neg c_4]) (hP) hS dX10_route_105
        · skip
          refine lv_bipush (v := (-5)) hx hb dX10_route_78 (by decide) ?_
          exact mu_iret (v := (-5)) hx hb hr hlocks (ro) (by show (((-5) : Int32), ro) = mXroute N ro x; unfold mXroute; rw [if_pos c_1, if_neg (by rw [hno]; decide)]; rw [if_neg (fun z9 => h0r z9.1)]; rw [if_pos c_4]) (hP) hS dX10_route_80
      · skip
        have h0r : 0 < ro.1 := by have h9 := Int32.not_le.mp c_3; rw [show (0 : Int32) = nI 0 from rfl, nI_ltI (by omega) (by omega)] at h9; exact h9
        refine lv_aload_n hx hb dX10_route_46 rfl (lv_at hl 0 rfl) ?_
        refine lv_aload_n hx hb dX10_route_47 rfl (lv_at hl 0 rfl) ?_
        refine va_get (D := D) (ci := 10) (v := .ref (am 16)) (C := RX10) (T := TX10) (N := 41) hx hb hts hin10 hown hK.1 hP 0 rfl rfl 27 (by decide) (hts _ fl_X10_60) (fun _ h9 => h9) rfl dX10_route_48 ?_
        refine lv_aload_n hx hb dX10_route_51 rfl (lv_at hl 0 rfl) ?_
        refine va_get (D := D) (ci := 10) (v := .int (nI ro.1)) (C := RX10) (T := TX10) (N := 41) hx hb hts hin10 hown hK.1 hP 0 rfl rfl 26 (by decide) (hts _ fl_X10_162) (fun _ h9 => h9) rfl dX10_route_52 ?_
        refine lv_iconst (v := 1) hx hb dX10_route_55 (by decide) ?_
        refine lv_isub hx hb dX10_route_56 ?_
        rw [show nI ro.1 - 1 = nI (ro.1 - 1) from pk_sub (a := ro.1) (b := 1) h0r]
        refine z_iald hx hb hK.1 hP 16 0 rfl rfl (ro.1 - 1) rfl (show ro.1 - 1 < 10 by omega) (by decide) dX10_route_57 ?_
        refine lv_iload_n hx hb dX10_route_58 rfl (lv_at hl 1 rfl) ?_
        refine ro_V (As := [.int (ro.2.1 (ro.1 - 1)), .int x]) (rest := []) ⟨hx, hb, hml, hown, hts⟩ (c_X10_joins l D cI cZ am N hN16 S hS24 q o ho8 ro hr10 t ht6 fo hf5 k hk8 z (ro.2.1 (ro.1 - 1)) x) (cw_X10_105 hts rfl rfl ⟨Nat.le_of_ble_eq_true rfl, Nat.le_of_ble_eq_true rfl⟩) hK hP (ci := 10) rfl rfl rfl hl.1 rfl (Nat.le_of_ble_eq_true rfl) dX10_route_59 ⟨Nat.zero_le _, Nat.zero_le _⟩ ?_
        refine lv_iconst (v := (-1)) hx hb dX10_route_62 (by decide) ?_
        refine lv_icmp_ne (tgt := 69) hx hb dX10_route_63 (by decide) (fun c_5 => ?_) (fun c_5 => ?_)
        · skip
          refine lv_aload_n hx hb dX10_route_69 rfl (lv_at hl 0 rfl) ?_
          refine va_get (D := D) (ci := 10) (v := .int (nI ro.1)) (C := RX10) (T := TX10) (N := 41) hx hb hts hin10 hown hK.1 hP 0 rfl rfl 26 (by decide) (hts _ fl_X10_162) (fun _ h9 => h9) rfl dX10_route_70 ?_
          refine lv_bipush (v := 10) hx hb dX10_route_73 (by decide) ?_
          refine lv_icmp_ne (tgt := 81) hx hb dX10_route_75 (by decide) (fun c_6 => ?_) (fun c_6 => ?_)
          · skip
            have hb9 : ro.1 < 10 := by have h9 : ro.1 ≠ 10 := fun q9 => c_6 (by rw [q9]; rfl); omega
            refine lv_aload_n hx hb dX10_route_81 rfl (lv_at hl 0 rfl) ?_
            refine va_get (D := D) (ci := 10) (v := .ref (am 16)) (C := RX10) (T := TX10) (N := 41) hx hb hts hin10 hown hK.1 hP 0 rfl rfl 27 (by decide) (hts _ fl_X10_60) (fun _ h9 => h9) rfl dX10_route_82 ?_
            refine lv_aload_n hx hb dX10_route_85 rfl (lv_at hl 0 rfl) ?_
            refine va_get (D := D) (ci := 10) (v := .int (nI ro.1)) (C := RX10) (T := TX10) (N := 41) hx hb hts hin10 hown hK.1 hP 0 rfl rfl 26 (by decide) (hts _ fl_X10_162) (fun _ h9 => h9) rfl dX10_route_86 ?_
            refine lv_iload_n hx hb dX10_route_89 rfl (lv_at hl 1 rfl) ?_
            refine z_iast hx hb hK.1 hP hD hS 16 0 rfl rfl ro.1 rfl hb9 (by decide)  dX10_route_90 (fun H locs hP hD hS => ?_)
            have hP : va_P D vwCl (wM am cI cZ N S q o (ro.1, (upd ro.2.1 ro.1 x), ro.2.2) t fo k z) H := hP
            have hD : va_D _ (wM am cI cZ N S q o (ro.1, (upd ro.2.1 ro.1 x), ro.2.2) t fo k z) := hD
            refine lv_aload_n hx hb dX10_route_91 rfl (lv_at hl 0 rfl) ?_
            refine lv_dup hx hb dX10_route_92 rfl ?_
            refine va_get (D := D) (ci := 10) (v := .int (nI ro.1)) (C := RX10) (T := TX10) (N := 41) hx hb hts hin10 hown hK.1 hP 0 rfl rfl 26 (by decide) (hts _ fl_X10_162) (fun _ h9 => h9) rfl dX10_route_93 ?_
            refine lv_iconst (v := 1) hx hb dX10_route_96 (by decide) ?_
            refine lv_iadd hx hb dX10_route_97 ?_
            rw [nI_1 ro.1]
            refine va_put (D := D) (ci := 10) (v := .int (nI (ro.1 + 1))) (ty := .int) (C := RX10) (T := TX10) (N := 41) hx hb hts hin10 tyX10 tyX10_ok nmX10 hown hK.1 hP hD hS 0 rfl rfl 26 (by decide) (hts _ fl_X10_162) (fun _ h9 => h9) rfl (by decide +kernel) rfl rfl (Nat.le_of_ble_eq_true rfl) dX10_route_98 (fun H locs hP hD hS => ?_)
            have hP : va_P D vwCl (wM am cI cZ N S q o ((ro.1 + 1), (upd ro.2.1 ro.1 x), ro.2.2) t fo k z) H := hP
            have hD : va_D _ (wM am cI cZ N S q o ((ro.1 + 1), (upd ro.2.1 ro.1 x), ro.2.2) t fo k z) := hD
            refine lv_aload_n hx hb dX10_route_101 rfl (lv_at hl 0 rfl) ?_
            refine va_get (D := D) (ci := 10) (v := .int (nI (ro.1 + 1))) (C := RX10) (T := TX10) (N := 41) hx hb hts hin10 hown hK.1 hP 0 rfl rfl 26 (by decide) (hts _ fl_X10_162) (fun _ h9 => h9) rfl dX10_route_102 ?_
            exact mu_iret (v := (nI (ro.1 + 1))) hx hb hr hlocks (((ro.1 + 1), (upd ro.2.1 ro.1 x), ro.2.2)) (by show (((nI (ro.1 + 1)) : Int32), ((ro.1 + 1), (upd ro.2.1 ro.1 x), ro.2.2)) = mXroute N ro x; unfold mXroute; rw [if_pos c_1, if_neg (by rw [hno]; decide)]; rw [if_neg (fun z9 => c_5 z9.2)]; rw [if_neg c_6]) (hP) hS dX10_route_105
          · skip
            refine lv_bipush (v := (-5)) hx hb dX10_route_78 (by decide) ?_
            exact mu_iret (v := (-5)) hx hb hr hlocks (ro) (by show (((-5) : Int32), ro) = mXroute N ro x; unfold mXroute; rw [if_pos c_1, if_neg (by rw [hno]; decide)]; rw [if_neg (fun z9 => c_5 z9.2)]; rw [if_pos c_6]) (hP) hS dX10_route_80
        · skip
          refine lv_bipush (v := (-4)) hx hb dX10_route_66 (by decide) ?_
          exact mu_iret (v := (-4)) hx hb hr hlocks (ro) (by show (((-4) : Int32), ro) = mXroute N ro x; unfold mXroute; rw [if_pos c_1, if_neg (by rw [hno]; decide)]; rw [if_pos ⟨h0r, c_5⟩]) (hP) hS dX10_route_68
    · skip
      have hlt : i < ro.1 := zlt (by have := hI.1; omega) (by omega) c_2
      refine lv_aload_n hx hb dX10_route_20 rfl (lv_at hl 0 rfl) ?_
      refine va_get (D := D) (ci := 10) (v := .ref (am 16)) (C := RX10) (T := TX10) (N := 41) hx hb hts hin10 hown hK.1 hP 0 rfl rfl 27 (by decide) (hts _ fl_X10_60) (fun _ h9 => h9) rfl dX10_route_21 ?_
      refine lv_iload_n hx hb dX10_route_24 rfl (lv_at hl 2 rfl) ?_
      refine z_iald hx hb hK.1 hP 16 0 rfl rfl i rfl (show i < 10 by omega) (by decide) dX10_route_25 ?_
      refine lv_iload_n hx hb dX10_route_26 rfl (lv_at hl 1 rfl) ?_
      refine lv_icmp_ne (tgt := 33) hx hb dX10_route_27 (by decide) (fun c_7 => ?_) (fun c_7 => ?_)
      · skip
        refine lv_iinc (v := (nI (i + 1))) (lv' := [(2, .int (nI (i + 1))), (0, .ref (am 0)), (1, .int x)]) hx hb dX10_route_33 hl (k := 2) rfl (nI_add i 1) (by decide) rfl (fun ls hl => ?_)
        refine lv_goto (tgt := 12) hx hb dX10_route_36 (by decide) ?_
        exact ih_12 (i + 1) ls H locs (show (i + 1) ≤ ro.1 ∧ hasB ro.2.1 x (i + 1) = false from ⟨hlt, by rw [hasB, hI.2, Bool.false_or, decide_eq_false_iff_not]; exact c_7⟩) (show ro.1 - (i + 1) < ro.1 - i from by omega) (show lv_has ls 3 [(0, .ref (am 0)), (1, .int x), (2, .int (nI (i + 1)))] from lv_sub hl [1, 2, 0] rfl) hP hD hS
      · skip
        have hyes : hasB ro.2.1 x ro.1 = true := (hasB_iff _).mpr ⟨i, hlt, c_7⟩
        refine lv_bipush (v := (-4)) hx hb dX10_route_30 (by decide) ?_
        exact mu_iret (v := (-4)) hx hb hr hlocks (ro) (by show (((-4) : Int32), ro) = mXroute N ro x; unfold mXroute; rw [if_pos c_1, if_pos hyes]) (hP) hS dX10_route_32
  · skip
    have c_1 := zb_eq0 c_1
    refine lv_bipush (v := (-2)) hx hb dX10_route_7 (by decide) ?_
    exact mu_iret (v := (-2)) hx hb hr hlocks (ro) (by show (((-2) : Int32), ro) = mXroute N ro x; unfold mXroute; rw [if_neg c_1]) (hP) hS dX10_route_9
