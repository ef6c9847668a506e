def mXpath (N : TN) (x y v : Int32) : Int32 × TN := if 0 ≤ x ∧ x ≤ 9 then if 0 ≤ y ∧ y ≤ 9 then if x = y then (-3, N) else if 1 ≤ v ∧ v ≤ 9 then if mJo N x y (N_n N) = -1 then if nI (N_n N) = 16 then (-5, N) else (nI (N_n N), (N_n N + 1, upd (N_a N) (N_n N) x, upd (N_b N) (N_n N) y, upd (N_l N) (N_n N) v)) else (-4, N) else (-3, N) else (-2, N) else (-2, N)
set_option maxHeartbeats 4000000 in
set_option maxRecDepth 100000 in
theorem c_X10_path (l : Launch) (D : va_G) (cI cZ : ClassId) (am : Nat → Nat) (N : TN) (hN16 : N_n N ≤ 16) (S : TS) (hS24 : S_n S ≤ 24) (q : TQ) (o : TO) (ho8 : o.1 ≤ 8) (ro : TR) (hr10 : ro.1 ≤ 10) (t : TT) (ht6 : t.1 ≤ 6) (fo : TF) (hf5 : fo.1 ≤ 5) (k : TC) (hk8 : k.2.1 ≤ 8) (z : TZ) (x y v : Int32) : MI l D cI cZ yX10_path wyX10_path ({ frames := 3, cells := 0, slots := 0, locals := 68 } : Room) [.ref (am 0), .int x, .int y, .int v] (wM am cI cZ N S q o ro t fo k z) (fun r u => (r, u) = mXpath N x y v) (fun (u : TN) => wM am cI cZ u S q o ro t fo k z) := by
  refine Met.ofW (cc := cX10_path) (maxL := 4) (ret := (some .int)) (by decide) rfl ?_
  intro p e s m args below meth c s₁ B hml hv
  obtain ⟨rfl, hK, hP, hD0⟩ := hv
  have hx := B.exec
  have hb := B.bytes
  have hr := B.returns
  have hts0 := atoms_spec (ws := wyX10_path) B.pre
  have hts : ∀ w ∈ big, w.before _ s = true := fun w h => hts0 w (List.mem_cons_of_mem _ h)
  have hown : s.vm.findClass RX10 = some m.cls := findClass_of_methodNamed B.named
  have hlocks := B.notSynchronized
  have hD := D_inW hD0
  have hS : va_S (inW (wM am cI cZ N S q o ro t fo k z)) s.heap s.heap [] := va_S.rf
  have hl := lv_entry ([.ref (am 0), .int x, .int y, .int v]) (n := 4) (Nat.le_of_ble_eq_true rfl)
  rw [lg_entry_eq]
  generalize (lg_sl ([.ref (am 0), .int x, .int y, .int v]) ++ List.replicate (4 - (lg_sl ([.ref (am 0), .int x, .int y, .int v])).length) Slot.unset).toArray = ls at hl ⊢
  have hl : lv_has ls 4 [(0, .ref (am 0)), (1, .int x), (2, .int y), (3, .int v)] := hl
  refine lv_iload_n hx hb dX10_path_0 rfl (lv_at hl 1 rfl) ?_
  refine ro_S (As := [.int x]) (rest := []) ⟨hx, hb, hml, hown, hts⟩ (c_X10_isPlace l D cI cZ  x) (cw_X10_101 hts rfl rfl ⟨Nat.le_of_ble_eq_true rfl, Nat.le_of_ble_eq_true rfl⟩) hK P_nil rfl hl.1 rfl (Nat.le_of_ble_eq_true rfl) dX10_path_1 ⟨Nat.zero_le _, Nat.zero_le _⟩ ?_
  refine lv_if_eq (tgt := 14) hx hb dX10_path_4 (by decide) (fun c_1 => ?_) (fun c_1 => ?_)
  · skip
    have c_1 := zb_eq0 c_1
    refine lv_bipush (v := (-2)) hx hb dX10_path_14 (by decide) ?_
    exact mu_iret (v := (-2)) hx hb hr hlocks (N) (by show (((-2) : Int32), N) = mXpath N x y v; unfold mXpath; (first | rw [if_pos c_1] | rw [if_neg c_1] | skip); (try rfl)) (hP) hS dX10_path_16
  · skip
    have c_1 := zb_ne0 c_1
    refine lv_iload_n hx hb dX10_path_7 rfl (lv_at hl 2 rfl) ?_
    refine ro_S (As := [.int y]) (rest := []) ⟨hx, hb, hml, hown, hts⟩ (c_X10_isPlace l D cI cZ  y) (cw_X10_101 hts rfl rfl ⟨Nat.le_of_ble_eq_true rfl, Nat.le_of_ble_eq_true rfl⟩) hK P_nil rfl hl.1 rfl (Nat.le_of_ble_eq_true rfl) dX10_path_8 ⟨Nat.zero_le _, Nat.zero_le _⟩ ?_
    refine lv_if_ne (tgt := 17) hx hb dX10_path_11 (by decide) (fun c_2 => ?_) (fun c_2 => ?_)
    · skip
      have c_2 := zb_ne0 c_2
      refine lv_iload_n hx hb dX10_path_17 rfl (lv_at hl 1 rfl) ?_
      refine lv_iload_n hx hb dX10_path_18 rfl (lv_at hl 2 rfl) ?_
      refine lv_icmp_eq (tgt := 32) hx hb dX10_path_19 (by decide) (fun c_3 => ?_) (fun c_3 => ?_)
      · skip
        refine lv_bipush (v := (-3)) hx hb dX10_path_32 (by decide) ?_
        exact mu_iret (v := (-3)) hx hb hr hlocks (N) (by show (((-3) : Int32), N) = mXpath N x y v; unfold mXpath; (first | rw [if_pos c_1] | rw [if_neg c_1] | skip); (first | rw [if_pos c_2] | rw [if_neg c_2] | skip); (first | rw [if_pos c_3] | rw [if_neg c_3] | skip); (try rfl)) (hP) hS dX10_path_34
      · skip
        refine lv_iload_n hx hb dX10_path_22 rfl (lv_at hl 3 rfl) ?_
        refine lv_iconst (v := 1) hx hb dX10_path_23 (by decide) ?_
        refine lv_bipush (v := 9) hx hb dX10_path_24 (by decide) ?_
        refine ro_S (As := [.int v, .int 1, .int 9]) (rest := []) ⟨hx, hb, hml, hown, hts⟩ (c_X10_in l D cI cZ  v 1 9) (cw_X10_90 hts rfl rfl ⟨Nat.le_of_ble_eq_true rfl, Nat.le_of_ble_eq_true rfl⟩) hK P_nil rfl hl.1 rfl (Nat.le_of_ble_eq_true rfl) dX10_path_26 ⟨Nat.zero_le _, Nat.zero_le _⟩ ?_
        refine lv_if_ne (tgt := 35) hx hb dX10_path_29 (by decide) (fun c_4 => ?_) (fun c_4 => ?_)
        · skip
          have c_4 := zb_ne0 c_4
          refine lv_aload_n hx hb dX10_path_35 rfl (lv_at hl 0 rfl) ?_
          refine lv_iload_n hx hb dX10_path_36 rfl (lv_at hl 1 rfl) ?_
          refine lv_iload_n hx hb dX10_path_37 rfl (lv_at hl 2 rfl) ?_
          refine ro_V (As := [.int x, .int y]) (rest := []) ⟨hx, hb, hml, hown, hts⟩ (c_X10_joins l D cI cZ am N hN16 S hS24 q o ho8 ro hr10 t ht6 fo hf5 k hk8 z x y) (cw_X10_105 hts rfl rfl ⟨Nat.le_of_ble_eq_true rfl, Nat.le_of_ble_eq_true rfl⟩) hK hP (ci := 10) rfl rfl rfl hl.1 rfl (Nat.le_of_ble_eq_true rfl) dX10_path_38 ⟨Nat.zero_le _, Nat.zero_le _⟩ ?_
          refine lv_iconst (v := (-1)) hx hb dX10_path_41 (by decide) ?_
          refine lv_icmp_eq (tgt := 48) hx hb dX10_path_42 (by decide) (fun c_5 => ?_) (fun c_5 => ?_)
          · skip
            refine lv_aload_n hx hb dX10_path_48 rfl (lv_at hl 0 rfl) ?_
            refine va_get (D := D) (ci := 10) (v := .int (nI (N_n N))) (C := RX10) (T := TX10) (N := 41) hx hb hts hin10 hown hK.1 hP 0 rfl rfl 0 (by decide) (hts _ fl_X10_94) (fun _ h9 => h9) rfl dX10_path_49 ?_
            refine lv_bipush (v := 16) hx hb dX10_path_52 (by decide) ?_
            refine lv_icmp_ne (tgt := 60) hx hb dX10_path_54 (by decide) (fun c_6 => ?_) (fun c_6 => ?_)
            · skip
              have hb9 : (N_n N) < 16 := by have h9 : (N_n N) ≠ 16 := fun q9 => c_6 (by rw [q9]; rfl); omega
              refine lv_aload_n hx hb dX10_path_60 rfl (lv_at hl 0 rfl) ?_
              refine va_get (D := D) (ci := 10) (v := .ref (am 1)) (C := RX10) (T := TX10) (N := 41) hx hb hts hin10 hown hK.1 hP 0 rfl rfl 1 (by decide) (hts _ fl_X10_7) (fun _ h9 => h9) rfl dX10_path_61 ?_
              refine lv_aload_n hx hb dX10_path_64 rfl (lv_at hl 0 rfl) ?_
              refine va_get (D := D) (ci := 10) (v := .int (nI (N_n N))) (C := RX10) (T := TX10) (N := 41) hx hb hts hin10 hown hK.1 hP 0 rfl rfl 0 (by decide) (hts _ fl_X10_94) (fun _ h9 => h9) rfl dX10_path_65 ?_
              refine lv_iload_n hx hb dX10_path_68 rfl (lv_at hl 1 rfl) ?_
              refine z_iast hx hb hK.1 hP hD hS 1 0 rfl rfl (N_n N) rfl hb9 (by decide)  dX10_path_69 (fun H locs hP hD hS => ?_)
              have hP : va_P D vwCl (wM am cI cZ ((N_n N), (upd (N_a N) (N_n N) x), (N_b N), (N_l N)) S q o ro t fo k z) H := hP
              have hD : va_D _ (wM am cI cZ ((N_n N), (upd (N_a N) (N_n N) x), (N_b N), (N_l N)) S q o ro t fo k z) := hD
              refine lv_aload_n hx hb dX10_path_70 rfl (lv_at hl 0 rfl) ?_
              refine va_get (D := D) (ci := 10) (v := .ref (am 2)) (C := RX10) (T := TX10) (N := 41) hx hb hts hin10 hown hK.1 hP 0 rfl rfl 2 (by decide) (hts _ fl_X10_13) (fun _ h9 => h9) rfl dX10_path_71 ?_
              refine lv_aload_n hx hb dX10_path_74 rfl (lv_at hl 0 rfl) ?_
              refine va_get (D := D) (ci := 10) (v := .int (nI (N_n N))) (C := RX10) (T := TX10) (N := 41) hx hb hts hin10 hown hK.1 hP 0 rfl rfl 0 (by decide) (hts _ fl_X10_94) (fun _ h9 => h9) rfl dX10_path_75 ?_
              refine lv_iload_n hx hb dX10_path_78 rfl (lv_at hl 2 rfl) ?_
              refine z_iast hx hb hK.1 hP hD hS 2 0 rfl rfl (N_n N) rfl hb9 (by decide)  dX10_path_79 (fun H locs hP hD hS => ?_)
              have hP : va_P D vwCl (wM am cI cZ ((N_n N), (upd (N_a N) (N_n N) x), (upd (N_b N) (N_n N) y), (N_l N)) S q o ro t fo k z) H := hP
              have hD : va_D _ (wM am cI cZ ((N_n N), (upd (N_a N) (N_n N) x), (upd (N_b N) (N_n N) y), (N_l N)) S q o ro t fo k z) := hD
              refine lv_aload_n hx hb dX10_path_80 rfl (lv_at hl 0 rfl) ?_
              refine va_get (D := D) (ci := 10) (v := .ref (am 3)) (C := RX10) (T := TX10) (N := 41) hx hb hts hin10 hown hK.1 hP 0 rfl rfl 3 (by decide) (hts _ fl_X10_16) (fun _ h9 => h9) rfl dX10_path_81 ?_
              refine lv_aload_n hx hb dX10_path_84 rfl (lv_at hl 0 rfl) ?_
              refine va_get (D := D) (ci := 10) (v := .int (nI (N_n N))) (C := RX10) (T := TX10) (N := 41) hx hb hts hin10 hown hK.1 hP 0 rfl rfl 0 (by decide) (hts _ fl_X10_94) (fun _ h9 => h9) rfl dX10_path_85 ?_
              refine lv_iload_n hx hb dX10_path_88 rfl (lv_at hl 3 rfl) ?_
              refine z_iast hx hb hK.1 hP hD hS 3 0 rfl rfl (N_n N) rfl hb9 (by decide)  dX10_path_89 (fun H locs hP hD hS => ?_)
              have hP : va_P D vwCl (wM am cI cZ ((N_n N), (upd (N_a N) (N_n N) x), (upd (N_b N) (N_n N) y), (upd (N_l N) (N_n N) v)) S q o ro t fo k z) H := hP
              have hD : va_D _ (wM am cI cZ ((N_n N), (upd (N_a N) (N_n N) x), (upd (N_b N) (N_n N) y), (upd (N_l N) (N_n N) v)) S q o ro t fo k z) := hD
              refine lv_aload_n hx hb dX10_path_90 rfl (lv_at hl 0 rfl) ?_
              refine lv_dup hx hb dX10_path_91 rfl ?_
              refine va_get (D := D) (ci := 10) (v := .int (nI (N_n N))) (C := RX10) (T := TX10) (N := 41) hx hb hts hin10 hown hK.1 hP 0 rfl rfl 0 (by decide) (hts _ fl_X10_94) (fun _ h9 => h9) rfl dX10_path_92 ?_
              refine lv_iconst (v := 1) hx hb dX10_path_95 (by decide) ?_
              refine lv_iadd hx hb dX10_path_96 ?_
              rw [nI_1 (N_n N)]
              refine va_put (D := D) (ci := 10) (v := .int (nI ((N_n N) + 1))) (ty := .int) (C := RX10) (T := TX10) (N := 41) hx hb hts hin10 tyX10 tyX10_ok nmX10 hown hK.1 hP hD hS 0 rfl rfl 0 (by decide) (hts _ fl_X10_94) (fun _ h9 => h9) rfl (by decide +kernel) rfl rfl (Nat.le_of_ble_eq_true rfl) dX10_path_97 (fun H locs hP hD hS => ?_)
              have hP : va_P D vwCl (wM am cI cZ (((N_n N) + 1), (upd (N_a N) (N_n N) x), (upd (N_b N) (N_n N) y), (upd (N_l N) (N_n N) v)) S q o ro t fo k z) H := hP
              have hD : va_D _ (wM am cI cZ (((N_n N) + 1), (upd (N_a N) (N_n N) x), (upd (N_b N) (N_n N) y), (upd (N_l N) (N_n N) v)) S q o ro t fo k z) := hD
              refine lv_aload_n hx hb dX10_path_100 rfl (lv_at hl 0 rfl) ?_
              refine va_get (D := D) (ci := 10) (v := .int (nI ((N_n N) + 1))) (C := RX10) (T := TX10) (N := 41) hx hb hts hin10 hown hK.1 hP 0 rfl rfl 0 (by decide) (hts _ fl_X10_94) (fun _ h9 => h9) rfl dX10_path_101 ?_
              refine lv_iconst (v := 1) hx hb dX10_path_104 (by decide) ?_
              refine lv_isub hx hb dX10_path_105 ?_
              rw [nI_pred (N_n N)]
              exact mu_iret (v := (nI (N_n N))) hx hb hr hlocks ((((N_n N) + 1), (upd (N_a N) (N_n N) x), (upd (N_b N) (N_n N) y), (upd (N_l N) (N_n N) v))) (by show (((nI (N_n N)) : Int32), (((N_n N) + 1), (upd (N_a N) (N_n N) x), (upd (N_b N) (N_n N) y), (upd (N_l N) (N_n N) v))) = mXpath N x y v; unfold mXpath; (first | rw [if_pos c_1] | rw [if_neg c_1] | skip); (first | rw [if_pos c_2] | rw [if_neg c_2] | skip); (first | rw [if_pos c_3] | rw [if_neg c_3] | skip); (first | rw [if_pos c_4] | rw [if_neg c_4] | skip); (first | rw [if_pos c_5] | rw [if_neg c_5] | skip); (first | rw [if_pos c_6] | rw [if_neg c_6] | skip); (try rfl)) (hP) hS dX10_path_106
            · skip
              refine lv_bipush (v := (-5)) hx hb dX10_path_57 (by decide) ?_
              exact mu_iret (v := (-5)) hx hb hr hlocks (N) (by show (((-5) : Int32), N) = mXpath N x y v; unfold mXpath; (first | rw [if_pos c_1] | rw [if_neg c_1] | skip); (first | rw [if_pos c_2] | rw [if_neg c_2] | skip); (first | rw [if_pos c_3] | rw [if_neg c_3] | skip); (first | rw [if_pos c_4] | rw [if_neg c_4] | skip); (first | rw [if_pos c_5] | rw [if_neg c_5] | skip); (first | rw [if_pos c_6] | rw [if_neg c_6] | skip); (try rfl)) (hP) hS dX10_path_59
          · skip
            refine lv_bipush (v := (-4)) hx hb dX10_path_45 (by decide) ?_
            exact mu_iret (v := (-4)) hx hb hr hlocks (N) (by show (((-4) : Int32), N) = mXpath N x y v; unfold mXpath; (first | rw [if_pos c_1] | rw [if_neg c_1] | skip); (first | rw [if_pos c_2] | rw [if_neg c_2] | skip); (first | rw [if_pos c_3] | rw [if_neg c_3] | skip); (first | rw [if_pos c_4] | rw [if_neg c_4] | skip); (first | rw [if_pos c_5] | rw [if_neg c_5] | skip); (try rfl)) (hP) hS dX10_path_47
        · skip
          have c_4 := zb_eq0 c_4
          refine lv_bipush (v := (-3)) hx hb dX10_path_32 (by decide) ?_
          exact mu_iret (v := (-3)) hx hb hr hlocks (N) (by show (((-3) : Int32), N) = mXpath N x y v; unfold mXpath; (first | rw [if_pos c_1] | rw [if_neg c_1] | skip); (first | rw [if_pos c_2] | rw [if_neg c_2] | skip); (first | rw [if_pos c_3] | rw [if_neg c_3] | skip); (first | rw [if_pos c_4] | rw [if_neg c_4] | skip); (try rfl)) (hP) hS dX10_path_34
    · skip
      have c_2 := zb_eq0 c_2
      refine lv_bipush (v := (-2)) hx hb dX10_path_14 (by decide) ?_
      exact mu_iret (v := (-2)) hx hb hr hlocks (N) (by show (((-2) : Int32), N) = mXpath N x y v; unfold mXpath; (first | rw [if_pos c_1] | rw [if_neg c_1] | skip); (first | rw [if_pos c_2] | rw [if_neg c_2] | skip); (try rfl)) (hP) hS dX10_path_16

def mXweather (q : TQ) (x : Int32) : Int32 × TQ := if 0 ≤ x ∧ x ≤ 2 then (q.2.1, (q.1, x, q.2.2)) else (-3, q)
set_option maxHeartbeats 4000000 in
set_option maxRecDepth 100000 in
theorem c_X10_weather (l : Launch) (D : va_G) (cI cZ : ClassId) (am : Nat → Nat) (N : TN) (hN16 : N_n N ≤ 16) (S : TS) (hS24 : S_n S ≤ 24) (q : TQ) (o : TO) (ho8 : o.1 ≤ 8) (ro : TR) (hr10 : ro.1 ≤ 10) (t : TT) (ht6 : t.1 ≤ 6) (fo : TF) (hf5 : fo.1 ≤ 5) (k : TC) (hk8 : k.2.1 ≤ 8) (z : TZ) (x : Int32) : MI l D cI cZ yX10_weather wyX10_weather ({ frames := 1, cells := 0, slots := 0, locals := 22 } : Room) [.ref (am 0), .int x] (wM am cI cZ N S q o ro t fo k z) (fun r u => (r, u) = mXweather q x) (fun (u : TQ) => wM am cI cZ N S u o ro t fo k z) := by
  refine Met.ofW (cc := cX10_weather) (maxL := 3) (ret := (some .int)) (by decide) rfl ?_
  intro p e s m args below meth c s₁ B hml hv
  obtain ⟨rfl, hK, hP, hD0⟩ := hv
  have hx := B.exec
  have hb := B.bytes
  have hr := B.returns
  have hts0 := atoms_spec (ws := wyX10_weather) B.pre
  have hts : ∀ w ∈ big, w.before _ s = true := fun w h => hts0 w (List.mem_cons_of_mem _ h)
  have hown : s.vm.findClass RX10 = some m.cls := findClass_of_methodNamed B.named
  have hlocks := B.notSynchronized
  have hD := D_inW hD0
  have hS : va_S (inW (wM am cI cZ N S q o ro t fo k z)) s.heap s.heap [] := va_S.rf
  have hl := lv_entry ([.ref (am 0), .int x]) (n := 3) (Nat.le_of_ble_eq_true rfl)
  rw [lg_entry_eq]
  generalize (lg_sl ([.ref (am 0), .int x]) ++ List.replicate (3 - (lg_sl ([.ref (am 0), .int x])).length) Slot.unset).toArray = ls at hl ⊢
  have hl : lv_has ls 3 [(0, .ref (am 0)), (1, .int x)] := hl
  refine lv_iload_n hx hb dX10_weather_0 rfl (lv_at hl 1 rfl) ?_
  refine lv_iconst (v := 0) hx hb dX10_weather_1 (by decide) ?_
  refine lv_iconst (v := 2) hx hb dX10_weather_2 (by decide) ?_
  refine ro_S (As := [.int x, .int 0, .int 2]) (rest := []) ⟨hx, hb, hml, hown, hts⟩ (c_X10_in l D cI cZ  x 0 2) (cw_X10_90 hts rfl rfl ⟨Nat.le_of_ble_eq_true rfl, Nat.le_of_ble_eq_true rfl⟩) hK P_nil rfl hl.1 rfl (Nat.le_of_ble_eq_true rfl) dX10_weather_3 ⟨Nat.zero_le _, Nat.zero_le _⟩ ?_
  refine lv_if_ne (tgt := 12) hx hb dX10_weather_6 (by decide) (fun c_1 => ?_) (fun c_1 => ?_)
  · skip
    have c_1 := zb_ne0 c_1
    refine lv_aload_n hx hb dX10_weather_12 rfl (lv_at hl 0 rfl) ?_
    refine va_get (D := D) (ci := 10) (v := .int q.2.1) (C := RX10) (T := TX10) (N := 41) hx hb hts hin10 hown hK.1 hP 0 rfl rfl 5 (by decide) (hts _ fl_X10_109) (fun _ h9 => h9) rfl dX10_weather_13 ?_
    refine lv_istore_n (lv' := [(2, .int q.2.1), (0, .ref (am 0)), (1, .int x)]) hx hb dX10_weather_16 rfl hl (by decide) rfl (fun ls hl => ?_)
    refine lv_aload_n hx hb dX10_weather_17 rfl (lv_at hl 1 rfl) ?_
    refine lv_iload_n hx hb dX10_weather_18 rfl (lv_at hl 2 rfl) ?_
    refine va_put (D := D) (ci := 10) (v := .int x) (ty := .int) (C := RX10) (T := TX10) (N := 41) hx hb hts hin10 tyX10 tyX10_ok nmX10 hown hK.1 hP hD hS 0 rfl rfl 5 (by decide) (hts _ fl_X10_109) (fun _ h9 => h9) rfl (by decide +kernel) rfl rfl (Nat.le_of_ble_eq_true rfl) dX10_weather_19 (fun H locs hP hD hS => ?_)
    have hP : va_P D vwCl (wM am cI cZ N S (q.1, x, q.2.2) o ro t fo k z) H := hP
    have hD : va_D _ (wM am cI cZ N S (q.1, x, q.2.2) o ro t fo k z) := hD
    refine lv_iload_n hx hb dX10_weather_22 rfl (lv_at hl 0 rfl) ?_
    exact mu_iret (v := q.2.1) hx hb hr hlocks ((q.1, x, q.2.2)) (by show ((q.2.1 : Int32), (q.1, x, q.2.2)) = mXweather q x; unfold mXweather; (first | rw [if_pos c_1] | rw [if_neg c_1] | skip); (try rfl)) (hP) hS dX10_weather_23
  · skip
    have c_1 := zb_eq0 c_1
    refine lv_bipush (v := (-3)) hx hb dX10_weather_9 (by decide) ?_
    exact mu_iret (v := (-3)) hx hb hr hlocks (q) (by show (((-3) : Int32), q) = mXweather q x; unfold mXweather; (first | rw [if_pos c_1] | rw [if_neg c_1] | skip); (try rfl)) (hP) hS dX10_weather_11

def mXseen (S : TS) (q : TQ) (N : TN) (x y : Int32) : Int32 := if 0 ≤ x ∧ x ≤ 9 then if ¬ y = -1 ∧ ¬ mAt N y x = true then -2 else mSe S q N x y (S_n S) else -2
theorem mAt_cm {N : TN} {y x : Int32} (hN : N_n N < 2 ^ 31) (h : mAt N y x = true) : mCm N y := by
  unfold mAt at h
  rw [decide_eq_true_eq] at h
  exact Or.inr (ix_of h.1 hN)
set_option maxHeartbeats 4000000 in
set_option maxRecDepth 100000 in
theorem c_X10_seen (l : Launch) (D : va_G) (cI cZ : ClassId) (am : Nat → Nat) (N : TN) (hN16 : N_n N ≤ 16) (S : TS) (hS24 : S_n S ≤ 24) (q : TQ) (o : TO) (ho8 : o.1 ≤ 8) (ro : TR) (hr10 : ro.1 ≤ 10) (t : TT) (ht6 : t.1 ≤ 6) (fo : TF) (hf5 : fo.1 ≤ 5) (k : TC) (hk8 : k.2.1 ≤ 8) (z : TZ) (x y : Int32) : RO l D cI cZ yX10_seen wyX10_seen ({ frames := 2, cells := 0, slots := 0, locals := 44 } : Room) [.ref (am 0), .int x, .int y] (wM am cI cZ N S q o ro t fo k z) (mXseen S q N x y) := by
  refine Met.ofW (cc := cX10_seen) (maxL := 3) (ret := (some .int)) (by decide) rfl ?_
  intro p e s m args below meth c s₁ B hml hv
  obtain ⟨rfl, hK, hP⟩ := hv
  have hx := B.exec
  have hb := B.bytes
  have hr := B.returns
  have hts0 := atoms_spec (ws := wyX10_seen) B.pre
  have hts : ∀ w ∈ big, w.before _ s = true := fun w h => hts0 w (List.mem_cons_of_mem _ h)
  have hown : s.vm.findClass RX10 = some m.cls := findClass_of_methodNamed B.named
  have hlocks := B.notSynchronized
  have hl := lv_entry ([.ref (am 0), .int x, .int y]) (n := 3) (Nat.le_of_ble_eq_true rfl)
  rw [lg_entry_eq]
  generalize (lg_sl ([.ref (am 0), .int x, .int y]) ++ List.replicate (3 - (lg_sl ([.ref (am 0), .int x, .int y])).length) Slot.unset).toArray = ls at hl ⊢
  have hl : lv_has ls 3 [(0, .ref (am 0)), (1, .int x), (2, .int y)] := hl
  refine lv_iload_n hx hb dX10_seen_0 rfl (lv_at hl 1 rfl) ?_
  refine ro_S (As := [.int x]) (rest := []) ⟨hx, hb, hml, hown, hts⟩ (c_X10_isPlace l D cI cZ  x) (cw_X10_101 hts rfl rfl ⟨Nat.le_of_ble_eq_true rfl, Nat.le_of_ble_eq_true rfl⟩) hK P_nil rfl hl.1 rfl (Nat.le_of_ble_eq_true rfl) dX10_seen_1 ⟨Nat.zero_le _, Nat.zero_le _⟩ ?_
  refine lv_if_eq (tgt := 21) hx hb dX10_seen_4 (by decide) (fun c_1 => ?_) (fun c_1 => ?_)
  · skip
    have c_1 := zb_eq0 c_1
    refine lv_bipush (v := (-2)) hx hb dX10_seen_21 (by decide) ?_
    exact ro_iret hx hb hr hlocks (by show ((-2) : Int32) = mXseen S q N x y; unfold mXseen; (first | rw [if_pos c_1] | rw [if_neg c_1] | skip); (try rfl)) dX10_seen_23
  · skip
    have c_1 := zb_ne0 c_1
    refine lv_iload_n hx hb dX10_seen_7 rfl (lv_at hl 2 rfl) ?_
    refine lv_iconst (v := (-1)) hx hb dX10_seen_8 (by decide) ?_
    refine lv_icmp_eq (tgt := 24) hx hb dX10_seen_9 (by decide) (fun c_2 => ?_) (fun c_2 => ?_)
    · skip
      have c_2n : ¬ (¬ y = -1 ∧ ¬ mAt N y x = true) := fun z9 => z9.1 c_2
      refine lv_aload_n hx hb dX10_seen_24 rfl (lv_at hl 0 rfl) ?_
      refine lv_iload_n hx hb dX10_seen_25 rfl (lv_at hl 1 rfl) ?_
      refine lv_iload_n hx hb dX10_seen_26 rfl (lv_at hl 2 rfl) ?_
      refine ro_V (As := [.int x, .int y]) (rest := []) ⟨hx, hb, hml, hown, hts⟩ (c_X10_seenBy l D cI cZ am N hN16 S hS24 q o ho8 ro hr10 t ht6 fo hf5 k hk8 z x y (Or.inl c_2)) (cw_X10_128 hts rfl rfl ⟨Nat.le_of_ble_eq_true rfl, Nat.le_of_ble_eq_true rfl⟩) hK hP (ci := 10) rfl rfl rfl hl.1 rfl (Nat.le_of_ble_eq_true rfl) dX10_seen_27 ⟨Nat.zero_le _, Nat.zero_le _⟩ ?_
      exact ro_iret hx hb hr hlocks (by show ((mSe S q N x y (S_n S)) : Int32) = mXseen S q N x y; unfold mXseen; (first | rw [if_pos c_1] | rw [if_neg c_1] | skip); (first | rw [if_pos c_2n] | rw [if_neg c_2n] | skip); (try rfl)) dX10_seen_30
    · skip
      refine lv_aload_n hx hb dX10_seen_12 rfl (lv_at hl 0 rfl) ?_
      refine lv_iload_n hx hb dX10_seen_13 rfl (lv_at hl 2 rfl) ?_
      refine lv_iload_n hx hb dX10_seen_14 rfl (lv_at hl 1 rfl) ?_
      refine ro_V (As := [.int y, .int x]) (rest := []) ⟨hx, hb, hml, hown, hts⟩ (c_X10_isAt l D cI cZ am N hN16 S hS24 q o ho8 ro hr10 t ht6 fo hf5 k hk8 z y x) (cw_X10_97 hts rfl rfl ⟨Nat.le_of_ble_eq_true rfl, Nat.le_of_ble_eq_true rfl⟩) hK hP (ci := 10) rfl rfl rfl hl.1 rfl (Nat.le_of_ble_eq_true rfl) dX10_seen_15 ⟨Nat.zero_le _, Nat.zero_le _⟩ ?_
      refine lv_if_ne (tgt := 24) hx hb dX10_seen_18 (by decide) (fun c_3 => ?_) (fun c_3 => ?_)
      · skip
        have c_3 := zb_ne0 c_3
        have c_3n : ¬ (¬ y = -1 ∧ ¬ mAt N y x = true) := fun z9 => z9.2 c_3
        refine lv_aload_n hx hb dX10_seen_24 rfl (lv_at hl 0 rfl) ?_
        refine lv_iload_n hx hb dX10_seen_25 rfl (lv_at hl 1 rfl) ?_
        refine lv_iload_n hx hb dX10_seen_26 rfl (lv_at hl 2 rfl) ?_
        refine ro_V (As := [.int x, .int y]) (rest := []) ⟨hx, hb, hml, hown, hts⟩ (c_X10_seenBy l D cI cZ am N hN16 S hS24 q o ho8 ro hr10 t ht6 fo hf5 k hk8 z x y (mAt_cm (by omega) c_3)) (cw_X10_128 hts rfl rfl ⟨Nat.le_of_ble_eq_true rfl, Nat.le_of_ble_eq_true rfl⟩) hK hP (ci := 10) rfl rfl rfl hl.1 rfl (Nat.le_of_ble_eq_true rfl) dX10_seen_27 ⟨Nat.zero_le _, Nat.zero_le _⟩ ?_
        exact ro_iret hx hb hr hlocks (by show ((mSe S q N x y (S_n S)) : Int32) = mXseen S q N x y; unfold mXseen; (first | rw [if_pos c_1] | rw [if_neg c_1] | skip); (first | rw [if_pos c_3n] | rw [if_neg c_3n] | skip); (try rfl)) dX10_seen_30
      · skip
        have c_3 := zb_eq0 c_3
        have c_3 : ¬ y = -1 ∧ ¬ mAt N y x = true := ⟨c_2, c_3⟩
        refine lv_bipush (v := (-2)) hx hb dX10_seen_21 (by decide) ?_
        exact ro_iret hx hb hr hlocks (by show ((-2) : Int32) = mXseen S q N x y; unfold mXseen; (first | rw [if_pos c_1] | rw [if_neg c_1] | skip); (first | rw [if_pos c_3] | rw [if_neg c_3] | skip); (try rfl)) dX10_seen_23

def mXnote (o : TO) (x : Int32) : Int32 × TO := if -1 ≤ x ∧ x ≤ 15 then if nI o.1 = 8 then (-5, o) else (nI (o.1 + 1), (o.1 + 1, upd o.2 o.1 x)) else (-3, o)
set_option maxHeartbeats 4000000 in
set_option maxRecDepth 100000 in
theorem c_X10_note (l : Launch) (D : va_G) (cI cZ : ClassId) (am : Nat → Nat) (N : TN) (hN16 : N_n N ≤ 16) (S : TS) (hS24 : S_n S ≤ 24) (q : TQ) (o : TO) (ho8 : o.1 ≤ 8) (ro : TR) (hr10 : ro.1 ≤ 10) (t : TT) (ht6 : t.1 ≤ 6) (fo : TF) (hf5 : fo.1 ≤ 5) (k : TC) (hk8 : k.2.1 ≤ 8) (z : TZ) (x : Int32) : MI l D cI cZ yX10_note wyX10_note ({ frames := 1, cells := 0, slots := 0, locals := 22 } : Room) [.ref (am 0), .int x] (wM am cI cZ N S q o ro t fo k z) (fun r u => (r, u) = mXnote o x) (fun (u : TO) => wM am cI cZ N S q u ro t fo k z) := by
  refine Met.ofW (cc := cX10_note) (maxL := 2) (ret := (some .int)) (by decide) rfl ?_
  intro p e s m args below meth c s₁ B hml hv
  obtain ⟨rfl, hK, hP, hD0⟩ := hv
  have hx := B.exec
  have hb := B.bytes
  have hr := B.returns
  have hts0 := atoms_spec (ws := wyX10_note) B.pre
  have hts : ∀ w ∈ big, w.before _ s = true := fun w h => hts0 w (List.mem_cons_of_mem _ h)
  have hown : s.vm.findClass RX10 = some m.cls := findClass_of_methodNamed B.named
  have hlocks := B.notSynchronized
  have hD := D_inW hD0
  have hS : va_S (inW (wM am cI cZ N S q o ro t fo k z)) s.heap s.heap [] := va_S.rf
  have hl := lv_entry ([.ref (am 0), .int x]) (n := 2) (Nat.le_of_ble_eq_true rfl)
  rw [lg_entry_eq]
  generalize (lg_sl ([.ref (am 0), .int x]) ++ List.replicate (2 - (lg_sl ([.ref (am 0), .int x])).length) Slot.unset).toArray = ls at hl ⊢
  have hl : lv_has ls 2 [(0, .ref (am 0)), (1, .int x)] := hl
  refine lv_iload_n hx hb dX10_note_0 rfl (lv_at hl 1 rfl) ?_
  refine lv_iconst (v := (-1)) hx hb dX10_note_1 (by decide) ?_
  refine lv_bipush (v := 15) hx hb dX10_note_2 (by decide) ?_
  refine ro_S (As := [.int x, .int (-1), .int 15]) (rest := []) ⟨hx, hb, hml, hown, hts⟩ (c_X10_in l D cI cZ  x (-1) 15) (cw_X10_90 hts rfl rfl ⟨Nat.le_of_ble_eq_true rfl, Nat.le_of_ble_eq_true rfl⟩) hK P_nil rfl hl.1 rfl (Nat.le_of_ble_eq_true rfl) dX10_note_4 ⟨Nat.zero_le _, Nat.zero_le _⟩ ?_
  refine lv_if_ne (tgt := 13) hx hb dX10_note_7 (by decide) (fun c_1 => ?_) (fun c_1 => ?_)
  · skip
    have c_1 := zb_ne0 c_1
    refine lv_aload_n hx hb dX10_note_13 rfl (lv_at hl 0 rfl) ?_
    refine va_get (D := D) (ci := 10) (v := .int (nI o.1)) (C := RX10) (T := TX10) (N := 41) hx hb hts hin10 hown hK.1 hP 0 rfl rfl 23 (by decide) (hts _ fl_X10_150) (fun _ h9 => h9) rfl dX10_note_14 ?_
    refine lv_bipush (v := 8) hx hb dX10_note_17 (by decide) ?_
    refine lv_icmp_ne (tgt := 25) hx hb dX10_note_19 (by decide) (fun c_2 => ?_) (fun c_2 => ?_)
    · skip
      have hb9 : o.1 < 8 := by have h9 : o.1 ≠ 8 := fun q9 => c_2 (by rw [q9]; rfl); omega
      refine lv_aload_n hx hb dX10_note_25 rfl (lv_at hl 0 rfl) ?_
      refine va_get (D := D) (ci := 10) (v := .ref (am 14)) (C := RX10) (T := TX10) (N := 41) hx hb hts hin10 hown hK.1 hP 0 rfl rfl 24 (by decide) (hts _ fl_X10_54) (fun _ h9 => h9) rfl dX10_note_26 ?_
      refine lv_aload_n hx hb dX10_note_29 rfl (lv_at hl 0 rfl) ?_
      refine va_get (D := D) (ci := 10) (v := .int (nI o.1)) (C := RX10) (T := TX10) (N := 41) hx hb hts hin10 hown hK.1 hP 0 rfl rfl 23 (by decide) (hts _ fl_X10_150) (fun _ h9 => h9) rfl dX10_note_30 ?_
      refine lv_iload_n hx hb dX10_note_33 rfl (lv_at hl 1 rfl) ?_
      refine z_iast hx hb hK.1 hP hD hS 14 0 rfl rfl o.1 rfl hb9 (by decide)  dX10_note_34 (fun H locs hP hD hS => ?_)
      have hP : va_P D vwCl (wM am cI cZ N S q (o.1, (upd o.2 o.1 x)) ro t fo k z) H := hP
      have hD : va_D _ (wM am cI cZ N S q (o.1, (upd o.2 o.1 x)) ro t fo k z) := hD
      refine lv_aload_n hx hb dX10_note_35 rfl (lv_at hl 0 rfl) ?_
      refine lv_dup hx hb dX10_note_36 rfl ?_
      refine va_get (D := D) (ci := 10) (v := .int (nI o.1)) (C := RX10) (T := TX10) (N := 41) hx hb hts hin10 hown hK.1 hP 0 rfl rfl 23 (by decide) (hts _ fl_X10_150) (fun _ h9 => h9) rfl dX10_note_37 ?_
      refine lv_iconst (v := 1) hx hb dX10_note_40 (by decide) ?_
      refine lv_iadd hx hb dX10_note_41 ?_
      rw [nI_1 o.1]
      refine va_put (D := D) (ci := 10) (v := .int (nI (o.1 + 1))) (ty := .int) (C := RX10) (T := TX10) (N := 41) hx hb hts hin10 tyX10 tyX10_ok nmX10 hown hK.1 hP hD hS 0 rfl rfl 23 (by decide) (hts _ fl_X10_150) (fun _ h9 => h9) rfl (by decide +kernel) rfl rfl (Nat.le_of_ble_eq_true rfl) dX10_note_42 (fun H locs hP hD hS => ?_)
      have hP : va_P D vwCl (wM am cI cZ N S q ((o.1 + 1), (upd o.2 o.1 x)) ro t fo k z) H := hP
      have hD : va_D _ (wM am cI cZ N S q ((o.1 + 1), (upd o.2 o.1 x)) ro t fo k z) := hD
      refine lv_aload_n hx hb dX10_note_45 rfl (lv_at hl 0 rfl) ?_
      refine va_get (D := D) (ci := 10) (v := .int (nI (o.1 + 1))) (C := RX10) (T := TX10) (N := 41) hx hb hts hin10 hown hK.1 hP 0 rfl rfl 23 (by decide) (hts _ fl_X10_150) (fun _ h9 => h9) rfl dX10_note_46 ?_
      exact mu_iret (v := (nI (o.1 + 1))) hx hb hr hlocks (((o.1 + 1), (upd o.2 o.1 x))) (by show (((nI (o.1 + 1)) : Int32), ((o.1 + 1), (upd o.2 o.1 x))) = mXnote o x; unfold mXnote; (first | rw [if_pos c_1] | rw [if_neg c_1] | skip); (first | rw [if_pos c_2] | rw [if_neg c_2] | skip); (try rfl)) (hP) hS dX10_note_49
    · skip
      refine lv_bipush (v := (-5)) hx hb dX10_note_22 (by decide) ?_
      exact mu_iret (v := (-5)) hx hb hr hlocks (o) (by show (((-5) : Int32), o) = mXnote o x; unfold mXnote; (first | rw [if_pos c_1] | rw [if_neg c_1] | skip); (first | rw [if_pos c_2] | rw [if_neg c_2] | skip); (try rfl)) (hP) hS dX10_note_24
  · skip
    have c_1 := zb_eq0 c_1
    refine lv_bipush (v := (-3)) hx hb dX10_note_10 (by decide) ?_
    exact mu_iret (v := (-3)) hx hb hr hlocks (o) (by show (((-3) : Int32), o) = mXnote o x; unfold mXnote; (first | rw [if_pos c_1] | rw [if_neg c_1] | skip); (try rfl)) (hP) hS dX10_note_12

def mXtrail (t : TT) (x y : Int32) : Int32 × TT := if 0 ≤ x ∧ x ≤ 9 then if nI t.1 = 6 then (-5, t) else (nI t.1, (t.1 + 1, upd t.2.1 (6 * t.1) x, upd t.2.2.1 t.1 1, upd t.2.2.2.1 t.1 y, t.2.2.2.2)) else (-2, t)
set_option maxHeartbeats 4000000 in
set_option maxRecDepth 100000 in
theorem c_X10_trail (l : Launch) (D : va_G) (cI cZ : ClassId) (am : Nat → Nat) (N : TN) (hN16 : N_n N ≤ 16) (S : TS) (hS24 : S_n S ≤ 24) (q : TQ) (o : TO) (ho8 : o.1 ≤ 8) (ro : TR) (hr10 : ro.1 ≤ 10) (t : TT) (ht6 : t.1 ≤ 6) (fo : TF) (hf5 : fo.1 ≤ 5) (k : TC) (hk8 : k.2.1 ≤ 8) (z : TZ) (x y : Int32) (hy : y = 0 ∨ y = 1) : MI l D cI cZ yX10_trail wyX10_trail ({ frames := 2, cells := 0, slots := 0, locals := 42 } : Room) [.ref (am 0), .int x, .int y] (wM am cI cZ N S q o ro t fo k z) (fun r u => (r, u) = mXtrail t x y) (fun (u : TT) => wM am cI cZ N S q o ro u fo k z) := by
  refine Met.ofW (cc := cX10_trail) (maxL := 3) (ret := (some .int)) (by decide) rfl ?_
  intro p e s m args below meth c s₁ B hml hv
  obtain ⟨rfl, hK, hP, hD0⟩ := hv
  have hx := B.exec
  have hb := B.bytes
  have hr := B.returns
  have hts0 := atoms_spec (ws := wyX10_trail) B.pre
  have hts : ∀ w ∈ big, w.before _ s = true := fun w h => hts0 w (List.mem_cons_of_mem _ h)
  have hown : s.vm.findClass RX10 = some m.cls := findClass_of_methodNamed B.named
  have hlocks := B.notSynchronized
  have hD := D_inW hD0
  have hS : va_S (inW (wM am cI cZ N S q o ro t fo k z)) s.heap s.heap [] := va_S.rf
  have hl := lv_entry ([.ref (am 0), .int x, .int y]) (n := 3) (Nat.le_of_ble_eq_true rfl)
  rw [lg_entry_eq]
  generalize (lg_sl ([.ref (am 0), .int x, .int y]) ++ List.replicate (3 - (lg_sl ([.ref (am 0), .int x, .int y])).length) Slot.unset).toArray = ls at hl ⊢
  have hl : lv_has ls 3 [(0, .ref (am 0)), (1, .int x), (2, .int y)] := hl
  refine lv_iload_n hx hb dX10_trail_0 rfl (lv_at hl 1 rfl) ?_
  refine ro_S (As := [.int x]) (rest := []) ⟨hx, hb, hml, hown, hts⟩ (c_X10_isPlace l D cI cZ  x) (cw_X10_101 hts rfl rfl ⟨Nat.le_of_ble_eq_true rfl, Nat.le_of_ble_eq_true rfl⟩) hK P_nil rfl hl.1 rfl (Nat.le_of_ble_eq_true rfl) dX10_trail_1 ⟨Nat.zero_le _, Nat.zero_le _⟩ ?_
  refine lv_if_ne (tgt := 10) hx hb dX10_trail_4 (by decide) (fun c_1 => ?_) (fun c_1 => ?_)
  · skip
    have c_1 := zb_ne0 c_1
    refine lv_aload_n hx hb dX10_trail_10 rfl (lv_at hl 0 rfl) ?_
    refine va_get (D := D) (ci := 10) (v := .int (nI t.1)) (C := RX10) (T := TX10) (N := 41) hx hb hts hin10 hown hK.1 hP 0 rfl rfl 28 (by decide) (hts _ fl_X10_171) (fun _ h9 => h9) rfl dX10_trail_11 ?_
    refine lv_bipush (v := 6) hx hb dX10_trail_14 (by decide) ?_
    refine lv_icmp_ne (tgt := 22) hx hb dX10_trail_16 (by decide) (fun c_2 => ?_) (fun c_2 => ?_)
    · skip
      have hb9 : t.1 < 6 := by have h9 : t.1 ≠ 6 := fun q9 => c_2 (by rw [q9]; rfl); omega
      refine lv_aload_n hx hb dX10_trail_22 rfl (lv_at hl 0 rfl) ?_
      refine va_get (D := D) (ci := 10) (v := .ref (am 19)) (C := RX10) (T := TX10) (N := 41) hx hb hts hin10 hown hK.1 hP 0 rfl rfl 31 (by decide) (hts _ fl_X10_69) (fun _ h9 => h9) rfl dX10_trail_23 ?_
      refine lv_aload_n hx hb dX10_trail_26 rfl (lv_at hl 0 rfl) ?_
      refine va_get (D := D) (ci := 10) (v := .int (nI t.1)) (C := RX10) (T := TX10) (N := 41) hx hb hts hin10 hown hK.1 hP 0 rfl rfl 28 (by decide) (hts _ fl_X10_171) (fun _ h9 => h9) rfl dX10_trail_27 ?_
      refine lv_iload_n hx hb dX10_trail_30 rfl (lv_at hl 2 rfl) ?_
      refine z_zast hx hb hK.1 hP hD hS 19 1 rfl rfl t.1 rfl hb9 (by decide) (by rcases hy with h9 | h9 <;> rw [h9] <;> rfl) dX10_trail_31 (fun H locs hP hD hS => ?_)
      have hP : va_P D vwCl (wM am cI cZ N S q o ro (t.1, t.2.1, t.2.2.1, (upd t.2.2.2.1 t.1 y), t.2.2.2.2) fo k z) H := hP
      have hD : va_D _ (wM am cI cZ N S q o ro (t.1, t.2.1, t.2.2.1, (upd t.2.2.2.1 t.1 y), t.2.2.2.2) fo k z) := hD
      refine lv_aload_n hx hb dX10_trail_32 rfl (lv_at hl 0 rfl) ?_
      refine va_get (D := D) (ci := 10) (v := .ref (am 17)) (C := RX10) (T := TX10) (N := 41) hx hb hts hin10 hown hK.1 hP 0 rfl rfl 29 (by decide) (hts _ fl_X10_63) (fun _ h9 => h9) rfl dX10_trail_33 ?_
      refine lv_aload_n hx hb dX10_trail_36 rfl (lv_at hl 0 rfl) ?_
      refine va_get (D := D) (ci := 10) (v := .int (nI t.1)) (C := RX10) (T := TX10) (N := 41) hx hb hts hin10 hown hK.1 hP 0 rfl rfl 28 (by decide) (hts _ fl_X10_171) (fun _ h9 => h9) rfl dX10_trail_37 ?_
      refine lv_iconst (v := 1) hx hb dX10_trail_40 (by decide) ?_
      refine z_iast hx hb hK.1 hP hD hS 17 0 rfl rfl t.1 rfl hb9 (by decide)  dX10_trail_41 (fun H locs hP hD hS => ?_)
      have hP : va_P D vwCl (wM am cI cZ N S q o ro (t.1, t.2.1, (upd t.2.2.1 t.1 1), (upd t.2.2.2.1 t.1 y), t.2.2.2.2) fo k z) H := hP
      have hD : va_D _ (wM am cI cZ N S q o ro (t.1, t.2.1, (upd t.2.2.1 t.1 1), (upd t.2.2.2.1 t.1 y), t.2.2.2.2) fo k z) := hD
      refine lv_aload_n hx hb dX10_trail_42 rfl (lv_at hl 0 rfl) ?_
      refine va_get (D := D) (ci := 10) (v := .ref (am 18)) (C := RX10) (T := TX10) (N := 41) hx hb hts hin10 hown hK.1 hP 0 rfl rfl 30 (by decide) (hts _ fl_X10_66) (fun _ h9 => h9) rfl dX10_trail_43 ?_
      refine lv_bipush (v := 6) hx hb dX10_trail_46 (by decide) ?_
      refine lv_aload_n hx hb dX10_trail_48 rfl (lv_at hl 0 rfl) ?_
      refine va_get (D := D) (ci := 10) (v := .int (nI t.1)) (C := RX10) (T := TX10) (N := 41) hx hb hts hin10 hown hK.1 hP 0 rfl rfl 28 (by decide) (hts _ fl_X10_171) (fun _ h9 => h9) rfl dX10_trail_49 ?_
      refine lv_imul hx hb dX10_trail_52 ?_
      rw [show (6 : Int32) * nI t.1 = nI (6 * t.1) from pk_mul 6 t.1]
      refine lv_iload_n hx hb dX10_trail_53 rfl (lv_at hl 1 rfl) ?_
      refine z_iast hx hb hK.1 hP hD hS 18 0 rfl rfl (6 * t.1) rfl (show 6 * t.1 < 36 by omega) (by decide)  dX10_trail_54 (fun H locs hP hD hS => ?_)
      have hP : va_P D vwCl (wM am cI cZ N S q o ro (t.1, (upd t.2.1 (6 * t.1) x), (upd t.2.2.1 t.1 1), (upd t.2.2.2.1 t.1 y), t.2.2.2.2) fo k z) H := hP
      have hD : va_D _ (wM am cI cZ N S q o ro (t.1, (upd t.2.1 (6 * t.1) x), (upd t.2.2.1 t.1 1), (upd t.2.2.2.1 t.1 y), t.2.2.2.2) fo k z) := hD
      refine lv_aload_n hx hb dX10_trail_55 rfl (lv_at hl 0 rfl) ?_
      refine lv_dup hx hb dX10_trail_56 rfl ?_
      refine va_get (D := D) (ci := 10) (v := .int (nI t.1)) (C := RX10) (T := TX10) (N := 41) hx hb hts hin10 hown hK.1 hP 0 rfl rfl 28 (by decide) (hts _ fl_X10_171) (fun _ h9 => h9) rfl dX10_trail_57 ?_
      refine lv_iconst (v := 1) hx hb dX10_trail_60 (by decide) ?_
      refine lv_iadd hx hb dX10_trail_61 ?_
      rw [nI_1 t.1]
      refine va_put (D := D) (ci := 10) (v := .int (nI (t.1 + 1))) (ty := .int) (C := RX10) (T := TX10) (N := 41) hx hb hts hin10 tyX10 tyX10_ok nmX10 hown hK.1 hP hD hS 0 rfl rfl 28 (by decide) (hts _ fl_X10_171) (fun _ h9 => h9) rfl (by decide +kernel) rfl rfl (Nat.le_of_ble_eq_true rfl) dX10_trail_62 (fun H locs hP hD hS => ?_)
      have hP : va_P D vwCl (wM am cI cZ N S q o ro ((t.1 + 1), (upd t.2.1 (6 * t.1) x), (upd t.2.2.1 t.1 1), (upd t.2.2.2.1 t.1 y), t.2.2.2.2) fo k z) H := hP
      have hD : va_D _ (wM am cI cZ N S q o ro ((t.1 + 1), (upd t.2.1 (6 * t.1) x), (upd t.2.2.1 t.1 1), (upd t.2.2.2.1 t.1 y), t.2.2.2.2) fo k z) := hD
      refine lv_aload_n hx hb dX10_trail_65 rfl (lv_at hl 0 rfl) ?_
      refine va_get (D := D) (ci := 10) (v := .int (nI (t.1 + 1))) (C := RX10) (T := TX10) (N := 41) hx hb hts hin10 hown hK.1 hP 0 rfl rfl 28 (by decide) (hts _ fl_X10_171) (fun _ h9 => h9) rfl dX10_trail_66 ?_
      refine lv_iconst (v := 1) hx hb dX10_trail_69 (by decide) ?_
      refine lv_isub hx hb dX10_trail_70 ?_
      rw [nI_pred t.1]
      exact mu_iret (v := (nI t.1)) hx hb hr hlocks (((t.1 + 1), (upd t.2.1 (6 * t.1) x), (upd t.2.2.1 t.1 1), (upd t.2.2.2.1 t.1 y), t.2.2.2.2)) (by show (((nI t.1) : Int32), ((t.1 + 1), (upd t.2.1 (6 * t.1) x), (upd t.2.2.1 t.1 1), (upd t.2.2.2.1 t.1 y), t.2.2.2.2)) = mXtrail t x y; unfold mXtrail; (first | rw [if_pos c_1] | rw [if_neg c_1] | skip); (first | rw [if_pos c_2] | rw [if_neg c_2] | skip); (try rfl)) (hP) hS dX10_trail_71
    · skip
      refine lv_bipush (v := (-5)) hx hb dX10_trail_19 (by decide) ?_
      exact mu_iret (v := (-5)) hx hb hr hlocks (t) (by show (((-5) : Int32), t) = mXtrail t x y; unfold mXtrail; (first | rw [if_pos c_1] | rw [if_neg c_1] | skip); (first | rw [if_pos c_2] | rw [if_neg c_2] | skip); (try rfl)) (hP) hS dX10_trail_21
  · skip
    have c_1 := zb_eq0 c_1
    refine lv_bipush (v := (-2)) hx hb dX10_trail_7 (by decide) ?_
    exact mu_iret (v := (-2)) hx hb hr hlocks (t) (by show (((-2) : Int32), t) = mXtrail t x y; unfold mXtrail; (first | rw [if_pos c_1] | rw [if_neg c_1] | skip); (try rfl)) (hP) hS dX10_trail_9

def mXbranch (fo : TF) (x : Int32) : Int32 × TF := if 1 ≤ x ∧ x ≤ 20 then if nI fo.1 = 5 then (-5, fo) else (nI (fo.1 + 1), (fo.1 + 1, upd fo.2 fo.1 x)) else (-3, fo)
set_option maxHeartbeats 4000000 in
set_option maxRecDepth 100000 in
theorem c_X10_branch (l : Launch) (D : va_G) (cI cZ : ClassId) (am : Nat → Nat) (N : TN) (hN16 : N_n N ≤ 16) (S : TS) (hS24 : S_n S ≤ 24) (q : TQ) (o : TO) (ho8 : o.1 ≤ 8) (ro : TR) (hr10 : ro.1 ≤ 10) (t : TT) (ht6 : t.1 ≤ 6) (fo : TF) (hf5 : fo.1 ≤ 5) (k : TC) (hk8 : k.2.1 ≤ 8) (z : TZ) (x : Int32) : MI l D cI cZ yX10_branch wyX10_branch ({ frames := 1, cells := 0, slots := 0, locals := 22 } : Room) [.ref (am 0), .int x] (wM am cI cZ N S q o ro t fo k z) (fun r u => (r, u) = mXbranch fo x) (fun (u : TF) => wM am cI cZ N S q o ro t u k z) := by
  refine Met.ofW (cc := cX10_branch) (maxL := 2) (ret := (some .int)) (by decide) rfl ?_
  intro p e s m args below meth c s₁ B hml hv
  obtain ⟨rfl, hK, hP, hD0⟩ := hv
  have hx := B.exec
  have hb := B.bytes
  have hr := B.returns
  have hts0 := atoms_spec (ws := wyX10_branch) B.pre
  have hts : ∀ w ∈ big, w.before _ s = true := fun w h => hts0 w (List.mem_cons_of_mem _ h)
  have hown : s.vm.findClass RX10 = some m.cls := findClass_of_methodNamed B.named
  have hlocks := B.notSynchronized
  have hD := D_inW hD0
  have hS : va_S (inW (wM am cI cZ N S q o ro t fo k z)) s.heap s.heap [] := va_S.rf
  have hl := lv_entry ([.ref (am 0), .int x]) (n := 2) (Nat.le_of_ble_eq_true rfl)
  rw [lg_entry_eq]
  generalize (lg_sl ([.ref (am 0), .int x]) ++ List.replicate (2 - (lg_sl ([.ref (am 0), .int x])).length) Slot.unset).toArray = ls at hl ⊢
  have hl : lv_has ls 2 [(0, .ref (am 0)), (1, .int x)] := hl
  refine lv_iload_n hx hb dX10_branch_0 rfl (lv_at hl 1 rfl) ?_
  refine lv_iconst (v := 1) hx hb dX10_branch_1 (by decide) ?_
  refine lv_bipush (v := 20) hx hb dX10_branch_2 (by decide) ?_
  refine ro_S (As := [.int x, .int 1, .int 20]) (rest := []) ⟨hx, hb, hml, hown, hts⟩ (c_X10_in l D cI cZ  x 1 20) (cw_X10_90 hts rfl rfl ⟨Nat.le_of_ble_eq_true rfl, Nat.le_of_ble_eq_true rfl⟩) hK P_nil rfl hl.1 rfl (Nat.le_of_ble_eq_true rfl) dX10_branch_4 ⟨Nat.zero_le _, Nat.zero_le _⟩ ?_
  refine lv_if_ne (tgt := 13) hx hb dX10_branch_7 (by decide) (fun c_1 => ?_) (fun c_1 => ?_)
  · skip
    have c_1 := zb_ne0 c_1
    refine lv_aload_n hx hb dX10_branch_13 rfl (lv_at hl 0 rfl) ?_
    refine va_get (D := D) (ci := 10) (v := .int (nI fo.1)) (C := RX10) (T := TX10) (N := 41) hx hb hts hin10 hown hK.1 hP 0 rfl rfl 32 (by decide) (hts _ fl_X10_180) (fun _ h9 => h9) rfl dX10_branch_14 ?_
    refine lv_iconst (v := 5) hx hb dX10_branch_17 (by decide) ?_
    refine lv_icmp_ne (tgt := 24) hx hb dX10_branch_18 (by decide) (fun c_2 => ?_) (fun c_2 => ?_)
    · skip
      have hb9 : fo.1 < 5 := by have h9 : fo.1 ≠ 5 := fun q9 => c_2 (by rw [q9]; rfl); omega
      refine lv_aload_n hx hb dX10_branch_24 rfl (lv_at hl 0 rfl) ?_
      refine va_get (D := D) (ci := 10) (v := .ref (am 20)) (C := RX10) (T := TX10) (N := 41) hx hb hts hin10 hown hK.1 hP 0 rfl rfl 33 (by decide) (hts _ fl_X10_72) (fun _ h9 => h9) rfl dX10_branch_25 ?_
      refine lv_aload_n hx hb dX10_branch_28 rfl (lv_at hl 0 rfl) ?_
      refine va_get (D := D) (ci := 10) (v := .int (nI fo.1)) (C := RX10) (T := TX10) (N := 41) hx hb hts hin10 hown hK.1 hP 0 rfl rfl 32 (by decide) (hts _ fl_X10_180) (fun _ h9 => h9) rfl dX10_branch_29 ?_
      refine lv_iload_n hx hb dX10_branch_32 rfl (lv_at hl 1 rfl) ?_
      refine z_iast hx hb hK.1 hP hD hS 20 0 rfl rfl fo.1 rfl hb9 (by decide)  dX10_branch_33 (fun H locs hP hD hS => ?_)
      have hP : va_P D vwCl (wM am cI cZ N S q o ro t (fo.1, (upd fo.2 fo.1 x)) k z) H := hP
      have hD : va_D _ (wM am cI cZ N S q o ro t (fo.1, (upd fo.2 fo.1 x)) k z) := hD
      refine lv_aload_n hx hb dX10_branch_34 rfl (lv_at hl 0 rfl) ?_
      refine lv_dup hx hb dX10_branch_35 rfl ?_
      refine va_get (D := D) (ci := 10) (v := .int (nI fo.1)) (C := RX10) (T := TX10) (N := 41) hx hb hts hin10 hown hK.1 hP 0 rfl rfl 32 (by decide) (hts _ fl_X10_180) (fun _ h9 => h9) rfl dX10_branch_36 ?_
      refine lv_iconst (v := 1) hx hb dX10_branch_39 (by decide) ?_
      refine lv_iadd hx hb dX10_branch_40 ?_
      rw [nI_1 fo.1]
      refine va_put (D := D) (ci := 10) (v := .int (nI (fo.1 + 1))) (ty := .int) (C := RX10) (T := TX10) (N := 41) hx hb hts hin10 tyX10 tyX10_ok nmX10 hown hK.1 hP hD hS 0 rfl rfl 32 (by decide) (hts _ fl_X10_180) (fun _ h9 => h9) rfl (by decide +kernel) rfl rfl (Nat.le_of_ble_eq_true rfl) dX10_branch_41 (fun H locs hP hD hS => ?_)
      have hP : va_P D vwCl (wM am cI cZ N S q o ro t ((fo.1 + 1), (upd fo.2 fo.1 x)) k z) H := hP
      have hD : va_D _ (wM am cI cZ N S q o ro t ((fo.1 + 1), (upd fo.2 fo.1 x)) k z) := hD
      refine lv_aload_n hx hb dX10_branch_44 rfl (lv_at hl 0 rfl) ?_
      refine va_get (D := D) (ci := 10) (v := .int (nI (fo.1 + 1))) (C := RX10) (T := TX10) (N := 41) hx hb hts hin10 hown hK.1 hP 0 rfl rfl 32 (by decide) (hts _ fl_X10_180) (fun _ h9 => h9) rfl dX10_branch_45 ?_
      exact mu_iret (v := (nI (fo.1 + 1))) hx hb hr hlocks (((fo.1 + 1), (upd fo.2 fo.1 x))) (by show (((nI (fo.1 + 1)) : Int32), ((fo.1 + 1), (upd fo.2 fo.1 x))) = mXbranch fo x; unfold mXbranch; (first | rw [if_pos c_1] | rw [if_neg c_1] | skip); (first | rw [if_pos c_2] | rw [if_neg c_2] | skip); (try rfl)) (hP) hS dX10_branch_48
    · skip
      refine lv_bipush (v := (-5)) hx hb dX10_branch_21 (by decide) ?_
      exact mu_iret (v := (-5)) hx hb hr hlocks (fo) (by show (((-5) : Int32), fo) = mXbranch fo x; unfold mXbranch; (first | rw [if_pos c_1] | rw [if_neg c_1] | skip); (first | rw [if_pos c_2] | rw [if_neg c_2] | skip); (try rfl)) (hP) hS dX10_branch_23
  · skip
    have c_1 := zb_eq0 c_1
    refine lv_bipush (v := (-3)) hx hb dX10_branch_10 (by decide) ?_
    exact mu_iret (v := (-3)) hx hb hr hlocks (fo) (by show (((-3) : Int32), fo) = mXbranch fo x; unfold mXbranch; (first | rw [if_pos c_1] | rw [if_neg c_1] | skip); (try rfl)) (hP) hS dX10_branch_12

def mXclub (N : TN) (k : TC) (x y : Int32) : Int32 × TC := if 0 ≤ x ∧ x ≤ 3 then if 0 ≤ y ∧ y ≤ (1 : Int32) <<< (nI (N_n N) &&& 31) - 1 then (k.1 x.toNatClampNeg, (upd k.1 x.toNatClampNeg y, k.2.1, k.2.2.1, k.2.2.2.1, k.2.2.2.2)) else (-3, k) else (-2, k)
set_option maxHeartbeats 4000000 in
set_option maxRecDepth 100000 in
theorem c_X10_club (l : Launch) (D : va_G) (cI cZ : ClassId) (am : Nat → Nat) (N : TN) (hN16 : N_n N ≤ 16) (S : TS) (hS24 : S_n S ≤ 24) (q : TQ) (o : TO) (ho8 : o.1 ≤ 8) (ro : TR) (hr10 : ro.1 ≤ 10) (t : TT) (ht6 : t.1 ≤ 6) (fo : TF) (hf5 : fo.1 ≤ 5) (k : TC) (hk8 : k.2.1 ≤ 8) (z : TZ) (x y : Int32) : MI l D cI cZ yX10_club wyX10_club ({ frames := 1, cells := 0, slots := 0, locals := 22 } : Room) [.ref (am 0), .int x, .int y] (wM am cI cZ N S q o ro t fo k z) (fun r u => (r, u) = mXclub N k x y) (fun (u : TC) => wM am cI cZ N S q o ro t fo u z) := by
  refine Met.ofW (cc := cX10_club) (maxL := 4) (ret := (some .int)) (by decide) rfl ?_
  intro p e s m args below meth c s₁ B hml hv
  obtain ⟨rfl, hK, hP, hD0⟩ := hv
  have hx := B.exec
  have hb := B.bytes
  have hr := B.returns
  have hts0 := atoms_spec (ws := wyX10_club) B.pre
  have hts : ∀ w ∈ big, w.before _ s = true := fun w h => hts0 w (List.mem_cons_of_mem _ h)
  have hown : s.vm.findClass RX10 = some m.cls := findClass_of_methodNamed B.named
  have hlocks := B.notSynchronized
  have hD := D_inW hD0
  have hS : va_S (inW (wM am cI cZ N S q o ro t fo k z)) s.heap s.heap [] := va_S.rf
  have hl := lv_entry ([.ref (am 0), .int x, .int y]) (n := 4) (Nat.le_of_ble_eq_true rfl)
  rw [lg_entry_eq]
  generalize (lg_sl ([.ref (am 0), .int x, .int y]) ++ List.replicate (4 - (lg_sl ([.ref (am 0), .int x, .int y])).length) Slot.unset).toArray = ls at hl ⊢
  have hl : lv_has ls 4 [(0, .ref (am 0)), (1, .int x), (2, .int y)] := hl
  refine lv_iload_n hx hb dX10_club_0 rfl (lv_at hl 1 rfl) ?_
  refine lv_iconst (v := 0) hx hb dX10_club_1 (by decide) ?_
  refine lv_iconst (v := 3) hx hb dX10_club_2 (by decide) ?_
  refine ro_S (As := [.int x, .int 0, .int 3]) (rest := []) ⟨hx, hb, hml, hown, hts⟩ (c_X10_in l D cI cZ  x 0 3) (cw_X10_90 hts rfl rfl ⟨Nat.le_of_ble_eq_true rfl, Nat.le_of_ble_eq_true rfl⟩) hK P_nil rfl hl.1 rfl (Nat.le_of_ble_eq_true rfl) dX10_club_3 ⟨Nat.zero_le _, Nat.zero_le _⟩ ?_
  refine lv_if_ne (tgt := 12) hx hb dX10_club_6 (by decide) (fun c_1 => ?_) (fun c_1 => ?_)
  · skip
    have c_1 := zb_ne0 c_1
    obtain ⟨j, hj4, ej⟩ := nI_of2 (M := 3) (n := 3) (by decide) (Int32.not_lt.mpr c_1.1) c_1.2
    have hj : j < 4 := by omega
    have hl : lv_has ls 4 [(0, .ref (am 0)), (1, .int (nI j)), (2, .int y)] := by rw [← ej]; exact hl
    rw [ej] at c_1
    refine lv_iload_n hx hb dX10_club_12 rfl (lv_at hl 2 rfl) ?_
    refine lv_iconst (v := 0) hx hb dX10_club_13 (by decide) ?_
    refine lv_iconst (v := 1) hx hb dX10_club_14 (by decide) ?_
    refine lv_aload_n hx hb dX10_club_15 rfl (lv_at hl 0 rfl) ?_
    refine va_get (D := D) (ci := 10) (v := .int (nI (N_n N))) (C := RX10) (T := TX10) (N := 41) hx hb hts hin10 hown hK.1 hP 0 rfl rfl 0 (by decide) (hts _ fl_X10_94) (fun _ h9 => h9) rfl dX10_club_16 ?_
    refine lv_ishl hx hb dX10_club_19 ?_
    refine lv_iconst (v := 1) hx hb dX10_club_20 (by decide) ?_
    refine lv_isub hx hb dX10_club_21 ?_
    refine ro_S (As := [.int y, .int 0, .int ((1 <<< ((nI (N_n N)) &&& 31)) - 1)]) (rest := []) ⟨hx, hb, hml, hown, hts⟩ (c_X10_in l D cI cZ  y 0 ((1 <<< ((nI (N_n N)) &&& 31)) - 1)) (cw_X10_90 hts rfl rfl ⟨Nat.le_of_ble_eq_true rfl, Nat.le_of_ble_eq_true rfl⟩) hK P_nil rfl hl.1 rfl (Nat.le_of_ble_eq_true rfl) dX10_club_22 ⟨Nat.zero_le _, Nat.zero_le _⟩ ?_
    refine lv_if_ne (tgt := 31) hx hb dX10_club_25 (by decide) (fun c_2 => ?_) (fun c_2 => ?_)
    · skip
      have c_2 := zb_ne0 c_2
      refine lv_aload_n hx hb dX10_club_31 rfl (lv_at hl 0 rfl) ?_
      refine va_get (D := D) (ci := 10) (v := .ref (am 22)) (C := RX10) (T := TX10) (N := 41) hx hb hts hin10 hown hK.1 hP 0 rfl rfl 36 (by decide) (hts _ fl_X10_78) (fun _ h9 => h9) rfl dX10_club_32 ?_
      refine lv_iload_n hx hb dX10_club_35 rfl (lv_at hl 1 rfl) ?_
      refine z_iald hx hb hK.1 hP 22 0 rfl rfl j rfl hj (by decide) dX10_club_36 ?_
      refine lv_istore_n (lv' := [(3, .int (k.1 j)), (0, .ref (am 0)), (1, .int (nI j)), (2, .int y)]) hx hb dX10_club_37 rfl hl (by decide) rfl (fun ls hl => ?_)
      refine lv_aload_n hx hb dX10_club_38 rfl (lv_at hl 1 rfl) ?_
      refine va_get (D := D) (ci := 10) (v := .ref (am 22)) (C := RX10) (T := TX10) (N := 41) hx hb hts hin10 hown hK.1 hP 0 rfl rfl 36 (by decide) (hts _ fl_X10_78) (fun _ h9 => h9) rfl dX10_club_39 ?_
      refine lv_iload_n hx hb dX10_club_42 rfl (lv_at hl 2 rfl) ?_
      refine lv_iload_n hx hb dX10_club_43 rfl (lv_at hl 3 rfl) ?_
      refine z_iast hx hb hK.1 hP hD hS 22 0 rfl rfl j rfl hj (by decide)  dX10_club_44 (fun H locs hP hD hS => ?_)
      have hP : va_P D vwCl (wM am cI cZ N S q o ro t fo ((upd k.1 j y), k.2.1, k.2.2.1, k.2.2.2.1, k.2.2.2.2) z) H := hP
      have hD : va_D _ (wM am cI cZ N S q o ro t fo ((upd k.1 j y), k.2.1, k.2.2.1, k.2.2.2.1, k.2.2.2.2) z) := hD
      refine lv_iload_n hx hb dX10_club_45 rfl (lv_at hl 0 rfl) ?_
      exact mu_iret (v := (k.1 j)) hx hb hr hlocks (((upd k.1 j y), k.2.1, k.2.2.1, k.2.2.2.1, k.2.2.2.2)) (by show (((k.1 j) : Int32), ((upd k.1 j y), k.2.1, k.2.2.1, k.2.2.2.1, k.2.2.2.2)) = mXclub N k x y; unfold mXclub; rw [ej, nI_cl (by omega)]; (first | rw [if_pos c_1] | rw [if_neg c_1] | skip); (first | rw [if_pos c_2] | rw [if_neg c_2] | skip); (try rfl)) (hP) hS dX10_club_46
    · skip
      have c_2 := zb_eq0 c_2
      refine lv_bipush (v := (-3)) hx hb dX10_club_28 (by decide) ?_
      exact mu_iret (v := (-3)) hx hb hr hlocks (k) (by show (((-3) : Int32), k) = mXclub N k x y; unfold mXclub; rw [ej, nI_cl (by omega)]; (first | rw [if_pos c_1] | rw [if_neg c_1] | skip); (first | rw [if_pos c_2] | rw [if_neg c_2] | skip); (try rfl)) (hP) hS dX10_club_30
  · skip
    have c_1 := zb_eq0 c_1
    refine lv_bipush (v := (-2)) hx hb dX10_club_9 (by decide) ?_
    exact mu_iret (v := (-2)) hx hb hr hlocks (k) (by show (((-2) : Int32), k) = mXclub N k x y; unfold mXclub; (first | rw [if_pos c_1] | rw [if_neg c_1] | skip); (try rfl)) (hP) hS dX10_club_11

def mXcolour (k : TC) (x y v : Int32) : Int32 × TC := if 0 ≤ x ∧ x ≤ 3 then if 0 ≤ y ∧ y ≤ 5 then if 0 ≤ v ∧ v ≤ 400 then if nI k.2.1 = 8 then (-5, k) else (nI (k.2.1 + 1), (k.1, k.2.1 + 1, upd k.2.2.1 k.2.1 x, upd k.2.2.2.1 k.2.1 y, upd k.2.2.2.2 k.2.1 v)) else (-3, k) else (-3, k) else (-2, k)
set_option maxHeartbeats 4000000 in
set_option maxRecDepth 100000 in
theorem c_X10_colour (l : Launch) (D : va_G) (cI cZ : ClassId) (am : Nat → Nat) (N : TN) (hN16 : N_n N ≤ 16) (S : TS) (hS24 : S_n S ≤ 24) (q : TQ) (o : TO) (ho8 : o.1 ≤ 8) (ro : TR) (hr10 : ro.1 ≤ 10) (t : TT) (ht6 : t.1 ≤ 6) (fo : TF) (hf5 : fo.1 ≤ 5) (k : TC) (hk8 : k.2.1 ≤ 8) (z : TZ) (x y v : Int32) : MI l D cI cZ yX10_colour wyX10_colour ({ frames := 1, cells := 0, slots := 0, locals := 22 } : Room) [.ref (am 0), .int x, .int y, .int v] (wM am cI cZ N S q o ro t fo k z) (fun r u => (r, u) = mXcolour k x y v) (fun (u : TC) => wM am cI cZ N S q o ro t fo u z) := by
  refine Met.ofW (cc := cX10_colour) (maxL := 4) (ret := (some .int)) (by decide) rfl ?_
  intro p e s m args below meth c s₁ B hml hv
  obtain ⟨rfl, hK, hP, hD0⟩ := hv
  have hx := B.exec
  have hb := B.bytes
  have hr := B.returns
  have hts0 := atoms_spec (ws := wyX10_colour) B.pre
  have hts : ∀ w ∈ big, w.before _ s = true := fun w h => hts0 w (List.mem_cons_of_mem _ h)
  have hown : s.vm.findClass RX10 = some m.cls := findClass_of_methodNamed B.named
  have hlocks := B.notSynchronized
  have hD := D_inW hD0
  have hS : va_S (inW (wM am cI cZ N S q o ro t fo k z)) s.heap s.heap [] := va_S.rf
  have hl := lv_entry ([.ref (am 0), .int x, .int y, .int v]) (n := 4) (Nat.le_of_ble_eq_true rfl)
  rw [lg_entry_eq]
  generalize (lg_sl ([.ref (am 0), .int x, .int y, .int v]) ++ List.replicate (4 - (lg_sl ([.ref (am 0), .int x, .int y, .int v])).length) Slot.unset).toArray = ls at hl ⊢
  have hl : lv_has ls 4 [(0, .ref (am 0)), (1, .int x), (2, .int y), (3, .int v)] := hl
  refine lv_iload_n hx hb dX10_colour_0 rfl (lv_at hl 1 rfl) ?_
  refine lv_iconst (v := 0) hx hb dX10_colour_1 (by decide) ?_
  refine lv_iconst (v := 3) hx hb dX10_colour_2 (by decide) ?_
  refine ro_S (As := [.int x, .int 0, .int 3]) (rest := []) ⟨hx, hb, hml, hown, hts⟩ (c_X10_in l D cI cZ  x 0 3) (cw_X10_90 hts rfl rfl ⟨Nat.le_of_ble_eq_true rfl, Nat.le_of_ble_eq_true rfl⟩) hK P_nil rfl hl.1 rfl (Nat.le_of_ble_eq_true rfl) dX10_colour_3 ⟨Nat.zero_le _, Nat.zero_le _⟩ ?_
  refine lv_if_ne (tgt := 12) hx hb dX10_colour_6 (by decide) (fun c_1 => ?_) (fun c_1 => ?_)
  · skip
    have c_1 := zb_ne0 c_1
    refine lv_iload_n hx hb dX10_colour_12 rfl (lv_at hl 2 rfl) ?_
    refine lv_iconst (v := 0) hx hb dX10_colour_13 (by decide) ?_
    refine lv_iconst (v := 5) hx hb dX10_colour_14 (by decide) ?_
    refine ro_S (As := [.int y, .int 0, .int 5]) (rest := []) ⟨hx, hb, hml, hown, hts⟩ (c_X10_in l D cI cZ  y 0 5) (cw_X10_90 hts rfl rfl ⟨Nat.le_of_ble_eq_true rfl, Nat.le_of_ble_eq_true rfl⟩) hK P_nil rfl hl.1 rfl (Nat.le_of_ble_eq_true rfl) dX10_colour_15 ⟨Nat.zero_le _, Nat.zero_le _⟩ ?_
    refine lv_if_eq (tgt := 32) hx hb dX10_colour_18 (by decide) (fun c_2 => ?_) (fun c_2 => ?_)
    · skip
      have c_2 := zb_eq0 c_2
      refine lv_bipush (v := (-3)) hx hb dX10_colour_32 (by decide) ?_
      exact mu_iret (v := (-3)) hx hb hr hlocks (k) (by show (((-3) : Int32), k) = mXcolour k x y v; unfold mXcolour; (first | rw [if_pos c_1] | rw [if_neg c_1] | skip); (first | rw [if_pos c_2] | rw [if_neg c_2] | skip); (try rfl)) (hP) hS dX10_colour_34
    · skip
      have c_2 := zb_ne0 c_2
      refine lv_iload_n hx hb dX10_colour_21 rfl (lv_at hl 3 rfl) ?_
      refine lv_iconst (v := 0) hx hb dX10_colour_22 (by decide) ?_
      refine lv_sipush (v := 400) hx hb dX10_colour_23 (by decide) ?_
      refine ro_S (As := [.int v, .int 0, .int 400]) (rest := []) ⟨hx, hb, hml, hown, hts⟩ (c_X10_in l D cI cZ  v 0 400) (cw_X10_90 hts rfl rfl ⟨Nat.le_of_ble_eq_true rfl, Nat.le_of_ble_eq_true rfl⟩) hK P_nil rfl hl.1 rfl (Nat.le_of_ble_eq_true rfl) dX10_colour_26 ⟨Nat.zero_le _, Nat.zero_le _⟩ ?_
      refine lv_if_ne (tgt := 35) hx hb dX10_colour_29 (by decide) (fun c_3 => ?_) (fun c_3 => ?_)
      · skip
        have c_3 := zb_ne0 c_3
        refine lv_aload_n hx hb dX10_colour_35 rfl (lv_at hl 0 rfl) ?_
        refine va_get (D := D) (ci := 10) (v := .int (nI k.2.1)) (C := RX10) (T := TX10) (N := 41) hx hb hts hin10 hown hK.1 hP 0 rfl rfl 37 (by decide) (hts _ fl_X10_196) (fun _ h9 => h9) rfl dX10_colour_36 ?_
        refine lv_bipush (v := 8) hx hb dX10_colour_39 (by decide) ?_
        refine lv_icmp_ne (tgt := 47) hx hb dX10_colour_41 (by decide) (fun c_4 => ?_) (fun c_4 => ?_)
        · skip
          have hb9 : k.2.1 < 8 := by have h9 : k.2.1 ≠ 8 := fun q9 => c_4 (by rw [q9]; rfl); omega
          refine lv_aload_n hx hb dX10_colour_47 rfl (lv_at hl 0 rfl) ?_
          refine va_get (D := D) (ci := 10) (v := .ref (am 23)) (C := RX10) (T := TX10) (N := 41) hx hb hts hin10 hown hK.1 hP 0 rfl rfl 38 (by decide) (hts _ fl_X10_81) (fun _ h9 => h9) rfl dX10_colour_48 ?_
          refine lv_aload_n hx hb dX10_colour_51 rfl (lv_at hl 0 rfl) ?_
          refine va_get (D := D) (ci := 10) (v := .int (nI k.2.1)) (C := RX10) (T := TX10) (N := 41) hx hb hts hin10 hown hK.1 hP 0 rfl rfl 37 (by decide) (hts _ fl_X10_196) (fun _ h9 => h9) rfl dX10_colour_52 ?_
          refine lv_iload_n hx hb dX10_colour_55 rfl (lv_at hl 1 rfl) ?_
          refine z_iast hx hb hK.1 hP hD hS 23 0 rfl rfl k.2.1 rfl hb9 (by decide)  dX10_colour_56 (fun H locs hP hD hS => ?_)
          have hP : va_P D vwCl (wM am cI cZ N S q o ro t fo (k.1, k.2.1, (upd k.2.2.1 k.2.1 x), k.2.2.2.1, k.2.2.2.2) z) H := hP
          have hD : va_D _ (wM am cI cZ N S q o ro t fo (k.1, k.2.1, (upd k.2.2.1 k.2.1 x), k.2.2.2.1, k.2.2.2.2) z) := hD
          refine lv_aload_n hx hb dX10_colour_57 rfl (lv_at hl 0 rfl) ?_
          refine va_get (D := D) (ci := 10) (v := .ref (am 24)) (C := RX10) (T := TX10) (N := 41) hx hb hts hin10 hown hK.1 hP 0 rfl rfl 39 (by decide) (hts _ fl_X10_84) (fun _ h9 => h9) rfl dX10_colour_58 ?_
          refine lv_aload_n hx hb dX10_colour_61 rfl (lv_at hl 0 rfl) ?_
          refine va_get (D := D) (ci := 10) (v := .int (nI k.2.1)) (C := RX10) (T := TX10) (N := 41) hx hb hts hin10 hown hK.1 hP 0 rfl rfl 37 (by decide) (hts _ fl_X10_196) (fun _ h9 => h9) rfl dX10_colour_62 ?_
          refine lv_iload_n hx hb dX10_colour_65 rfl (lv_at hl 2 rfl) ?_
          refine z_iast hx hb hK.1 hP hD hS 24 0 rfl rfl k.2.1 rfl hb9 (by decide)  dX10_colour_66 (fun H locs hP hD hS => ?_)
          have hP : va_P D vwCl (wM am cI cZ N S q o ro t fo (k.1, k.2.1, (upd k.2.2.1 k.2.1 x), (upd k.2.2.2.1 k.2.1 y), k.2.2.2.2) z) H := hP
          have hD : va_D _ (wM am cI cZ N S q o ro t fo (k.1, k.2.1, (upd k.2.2.1 k.2.1 x), (upd k.2.2.2.1 k.2.1 y), k.2.2.2.2) z) := hD
          refine lv_aload_n hx hb dX10_colour_67 rfl (lv_at hl 0 rfl) ?_
          refine va_get (D := D) (ci := 10) (v := .ref (am 25)) (C := RX10) (T := TX10) (N := 41) hx hb hts hin10 hown hK.1 hP 0 rfl rfl 40 (by decide) (hts _ fl_X10_87) (fun _ h9 => h9) rfl dX10_colour_68 ?_
          refine lv_aload_n hx hb dX10_colour_71 rfl (lv_at hl 0 rfl) ?_
          refine va_get (D := D) (ci := 10) (v := .int (nI k.2.1)) (C := RX10) (T := TX10) (N := 41) hx hb hts hin10 hown hK.1 hP 0 rfl rfl 37 (by decide) (hts _ fl_X10_196) (fun _ h9 => h9) rfl dX10_colour_72 ?_
          refine lv_iload_n hx hb dX10_colour_75 rfl (lv_at hl 3 rfl) ?_
          refine z_iast hx hb hK.1 hP hD hS 25 0 rfl rfl k.2.1 rfl hb9 (by decide)  dX10_colour_76 (fun H locs hP hD hS => ?_)
          have hP : va_P D vwCl (wM am cI cZ N S q o ro t fo (k.1, k.2.1, (upd k.2.2.1 k.2.1 x), (upd k.2.2.2.1 k.2.1 y), (upd k.2.2.2.2 k.2.1 v)) z) H := hP
          have hD : va_D _ (wM am cI cZ N S q o ro t fo (k.1, k.2.1, (upd k.2.2.1 k.2.1 x), (upd k.2.2.2.1 k.2.1 y), (upd k.2.2.2.2 k.2.1 v)) z) := hD
          refine lv_aload_n hx hb dX10_colour_77 rfl (lv_at hl 0 rfl) ?_
          refine lv_dup hx hb dX10_colour_78 rfl ?_
          refine va_get (D := D) (ci := 10) (v := .int (nI k.2.1)) (C := RX10) (T := TX10) (N := 41) hx hb hts hin10 hown hK.1 hP 0 rfl rfl 37 (by decide) (hts _ fl_X10_196) (fun _ h9 => h9) rfl dX10_colour_79 ?_
          refine lv_iconst (v := 1) hx hb dX10_colour_82 (by decide) ?_
          refine lv_iadd hx hb dX10_colour_83 ?_
          rw [nI_1 k.2.1]
          refine va_put (D := D) (ci := 10) (v := .int (nI (k.2.1 + 1))) (ty := .int) (C := RX10) (T := TX10) (N := 41) hx hb hts hin10 tyX10 tyX10_ok nmX10 hown hK.1 hP hD hS 0 rfl rfl 37 (by decide) (hts _ fl_X10_196) (fun _ h9 => h9) rfl (by decide +kernel) rfl rfl (Nat.le_of_ble_eq_true rfl) dX10_colour_84 (fun H locs hP hD hS => ?_)
          have hP : va_P D vwCl (wM am cI cZ N S q o ro t fo (k.1, (k.2.1 + 1), (upd k.2.2.1 k.2.1 x), (upd k.2.2.2.1 k.2.1 y), (upd k.2.2.2.2 k.2.1 v)) z) H := hP
          have hD : va_D _ (wM am cI cZ N S q o ro t fo (k.1, (k.2.1 + 1), (upd k.2.2.1 k.2.1 x), (upd k.2.2.2.1 k.2.1 y), (upd k.2.2.2.2 k.2.1 v)) z) := hD
          refine lv_aload_n hx hb dX10_colour_87 rfl (lv_at hl 0 rfl) ?_
          refine va_get (D := D) (ci := 10) (v := .int (nI (k.2.1 + 1))) (C := RX10) (T := TX10) (N := 41) hx hb hts hin10 hown hK.1 hP 0 rfl rfl 37 (by decide) (hts _ fl_X10_196) (fun _ h9 => h9) rfl dX10_colour_88 ?_
          exact mu_iret (v := (nI (k.2.1 + 1))) hx hb hr hlocks ((k.1, (k.2.1 + 1), (upd k.2.2.1 k.2.1 x), (upd k.2.2.2.1 k.2.1 y), (upd k.2.2.2.2 k.2.1 v))) (by show (((nI (k.2.1 + 1)) : Int32), (k.1, (k.2.1 + 1), (upd k.2.2.1 k.2.1 x), (upd k.2.2.2.1 k.2.1 y), (upd k.2.2.2.2 k.2.1 v))) = mXcolour k x y v; unfold mXcolour; (first | rw [if_pos c_1] | rw [if_neg c_1] | skip); (first | rw [if_pos c_2] | rw [if_neg c_2] | skip); (first | rw [if_pos c_3] | rw [if_neg c_3] | skip); (first | rw [if_pos c_4] | rw [if_neg c_4] | skip); (try rfl)) (hP) hS dX10_colour_91
        · skip
          refine lv_bipush (v := (-5)) hx hb dX10_colour_44 (by decide) ?_
          exact mu_iret (v := (-5)) hx hb hr hlocks (k) (by show (((-5) : Int32), k) = mXcolour k x y v; unfold mXcolour; (first | rw [if_pos c_1] | rw [if_neg c_1] | skip); (first | rw [if_pos c_2] | rw [if_neg c_2] | skip); (first | rw [if_pos c_3] | rw [if_neg c_3] | skip); (first | rw [if_pos c_4] | rw [if_neg c_4] | skip); (try rfl)) (hP) hS dX10_colour_46
      · skip
        have c_3 := zb_eq0 c_3
        refine lv_bipush (v := (-3)) hx hb dX10_colour_32 (by decide) ?_
        exact mu_iret (v := (-3)) hx hb hr hlocks (k) (by show (((-3) : Int32), k) = mXcolour k x y v; unfold mXcolour; (first | rw [if_pos c_1] | rw [if_neg c_1] | skip); (first | rw [if_pos c_2] | rw [if_neg c_2] | skip); (first | rw [if_pos c_3] | rw [if_neg c_3] | skip); (try rfl)) (hP) hS dX10_colour_34
  · skip
    have c_1 := zb_eq0 c_1
    refine lv_bipush (v := (-2)) hx hb dX10_colour_9 (by decide) ?_
    exact mu_iret (v := (-2)) hx hb hr hlocks (k) (by show (((-2) : Int32), k) = mXcolour k x y v; unfold mXcolour; (first | rw [if_pos c_1] | rw [if_neg c_1] | skip); (try rfl)) (hP) hS dX10_colour_11
