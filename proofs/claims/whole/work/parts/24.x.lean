theorem ix_of {x : Int32} {n : Nat} (h : 0 ≤ x ∧ x ≤ nI n - 1) (hn : n < 2 ^ 31) : ∃ j : Nat, j < n ∧ x = nI j := by
  obtain ⟨j, hj, rfl⟩ := nI_of (Int32.not_lt.mpr h.1)
  refine ⟨j, ?_, rfl⟩
  rcases Nat.eq_zero_or_pos n with h0 | h0
  · have h9 := h.2
    rw [h0, show nI 0 - 1 = -1 from by decide] at h9
    exact absurd (Int32.lt_of_le_of_lt h9 (by decide)) (nI_pos hj)
  · have h9 := h.2
    rw [show nI n - 1 = nI (n - 1) from pk_sub (a := n) (b := 1) h0, nI_leI hj (by omega)] at h9
    omega
theorem jGo_le {S : TS} {sb : Nat → Int32} {q : TQ} {N : TN} {pb : Nat → Int32} : ∀ (n j : Nat) (g : TG), (jGo S sb q N pb n j g).1 ≤ n + j + 1
  | 0, j, g => by rw [jGo]; split <;> (show j + 1 ≤ _; omega)
  | n + 1, j, g => by
    rw [jGo]
    split
    · show j + 1 ≤ _; omega
    · split
      · refine Nat.le_trans (jGo_le (S := S) (sb := sb) (q := q) (N := N) (pb := pb) n (j + 1) _) (by omega)
      · show j + 2 ≤ _; omega
theorem jWalk_le {S : TS} {sb : Nat → Int32} {q : TQ} {N : TN} {pb f : Nat → Int32} {x : Int32} : (jWalk S sb q N pb f x).1 ≤ 31 := jGo_le 30 0 _
def jXpath (N : TN) (pb : Nat → Int32) (x y z : Int32) : Int32 × TN × (Nat → Int32) :=
  if 0 ≤ x ∧ x ≤ 9 then if 0 ≤ y ∧ y ≤ 9 then if x = y then (-3, N, pb) else if 1 ≤ z ∧ z ≤ 9 then if jJo pb x y = -1 then if nI (N_n N) < 16 then (nI (N_n N), jJoin N x y z, jJpb N pb x y) else (-5, N, pb) else (-4, N, pb) else (-3, N, pb) else (-2, N, pb) else (-2, N, pb)
set_option maxHeartbeats 4000000 in
set_option maxRecDepth 100000 in
theorem c_X9_path (l : Launch) (D : va_G) (cI cZ : ClassId) (a : Nat → Nat) (N : TN) (pb : Nat → Int32) (hN16 : N_n N ≤ 16) (S : TS) (sb : Nat → Int32) (q : TQ) (hS24 : S_n S ≤ 24) (w : Nat × (Nat → Int32) × Int32 × Int32) (hw : w.1 ≤ 31) (o : TO) (wy : Nat → Int32) (ho8 : o.1 ≤ 8) (ro : TR) (hr10 : ro.1 ≤ 10) (t : TT) (ht6 : t.1 ≤ 6) (zf : Nat → Nat) (hzf : ∀ i, i < t.1 → t.2.2.1 i = nI (zf i) ∧ zf i ≤ 6) (fo : TF) (tr be : Nat → Int32) (hf5 : fo.1 ≤ 5) (k : TC) (hk8 : k.2.1 ≤ 8) (x y z : Int32) : MI l D cI cZ yX9_path wyX9_path ({ frames := 4, cells := 0, slots := 0, locals := 87 } : Room) [.ref (a 0), .int x, .int y, .int z] (wX a cI N pb S sb q w o wy ro t fo tr be k) (fun r u => (r, u) = jXpath N pb x y z) (fun (u : TN × (Nat → Int32)) => wX a cI u.1 u.2 S sb q w o wy ro t fo tr be k) := by
  refine Met.ofW (cc := cX9_path) (maxL := 4) (ret := (some .int)) (by decide) rfl ?_
  intro p e s m args below meth c s₁ B hml hv
  obtain ⟨rfl, hK, hP, hD0⟩ := hv
  have hx := B.exec
  have hb := B.bytes
  have hr := B.returns
  have hts0 := atoms_spec (ws := wyX9_path) B.pre
  have hts : ∀ w ∈ big, w.before _ s = true := fun w h => hts0 w (List.mem_cons_of_mem _ h)
  have hown : s.vm.findClass RX9 = some m.cls := findClass_of_methodNamed B.named
  have hlocks := B.notSynchronized
  have hD := D_inW hD0
  have hS : va_S (inW (wX a cI N pb S sb q w o wy ro t fo tr be k)) s.heap s.heap [] := va_S.rf
  have hl := lv_entry ([.ref (a 0), .int x, .int y, .int z]) (n := 4) (Nat.le_of_ble_eq_true rfl)
  rw [lg_entry_eq]
  generalize (lg_sl ([.ref (a 0), .int x, .int y, .int z]) ++ List.replicate (4 - (lg_sl ([.ref (a 0), .int x, .int y, .int z])).length) Slot.unset).toArray = ls at hl ⊢
  have hl : lv_has ls 4 [(0, .ref (a 0)), (1, .int x), (2, .int y), (3, .int z)] := hl
  refine lv_iload_n hx hb dX9_path_0 rfl (lv_at hl 1 rfl) ?_
  refine ro_S (As := [.int x]) (rest := []) ⟨hx, hb, hml, hown, hts⟩ (c_X9_isPlace l D cI cZ  x) (cw_X9_73 hts rfl rfl ⟨Nat.le_of_ble_eq_true rfl, Nat.le_of_ble_eq_true rfl⟩) hK P_nil rfl hl.1 rfl (Nat.le_of_ble_eq_true rfl) dX9_path_1 ⟨Nat.zero_le _, Nat.zero_le _⟩ ?_
  refine lv_if_eq (tgt := 14) hx hb dX9_path_4 (by decide) (fun c_1 => ?_) (fun c_1 => ?_)
  · skip
    have c_1 := zb_eq0 c_1
    refine lv_bipush (v := (-2)) hx hb dX9_path_14 (by decide) ?_
    exact mu_iret (v := (-2)) hx hb hr hlocks ((N, pb)) (by show (((-2) : Int32), (N, pb)) = jXpath N pb x y z; unfold jXpath; (first | rw [if_pos c_1] | rw [if_neg c_1] | skip)) (hP) hS dX9_path_16
  · skip
    have c_1 := zb_ne0 c_1
    refine lv_iload_n hx hb dX9_path_7 rfl (lv_at hl 2 rfl) ?_
    refine ro_S (As := [.int y]) (rest := []) ⟨hx, hb, hml, hown, hts⟩ (c_X9_isPlace l D cI cZ  y) (cw_X9_73 hts rfl rfl ⟨Nat.le_of_ble_eq_true rfl, Nat.le_of_ble_eq_true rfl⟩) hK P_nil rfl hl.1 rfl (Nat.le_of_ble_eq_true rfl) dX9_path_8 ⟨Nat.zero_le _, Nat.zero_le _⟩ ?_
    refine lv_if_ne (tgt := 17) hx hb dX9_path_11 (by decide) (fun c_2 => ?_) (fun c_2 => ?_)
    · skip
      have c_2 := zb_ne0 c_2
      refine lv_iload_n hx hb dX9_path_17 rfl (lv_at hl 1 rfl) ?_
      refine lv_iload_n hx hb dX9_path_18 rfl (lv_at hl 2 rfl) ?_
      refine lv_icmp_eq (tgt := 32) hx hb dX9_path_19 (by decide) (fun c_3 => ?_) (fun c_3 => ?_)
      · skip
        refine lv_bipush (v := (-3)) hx hb dX9_path_32 (by decide) ?_
        exact mu_iret (v := (-3)) hx hb hr hlocks ((N, pb)) (by show (((-3) : Int32), (N, pb)) = jXpath N pb x y z; unfold jXpath; (first | rw [if_pos c_1] | rw [if_neg c_1] | skip); (first | rw [if_pos c_2] | rw [if_neg c_2] | skip); (first | rw [if_pos c_3] | rw [if_neg c_3] | skip)) (hP) hS dX9_path_34
      · skip
        refine lv_iload_n hx hb dX9_path_22 rfl (lv_at hl 3 rfl) ?_
        refine lv_iconst (v := 1) hx hb dX9_path_23 (by decide) ?_
        refine lv_bipush (v := 9) hx hb dX9_path_24 (by decide) ?_
        refine ro_S (As := [.int z, .int 1, .int 9]) (rest := []) ⟨hx, hb, hml, hown, hts⟩ (c_X9_isWithin l D cI cZ  z 1 9) (cw_X9_77 hts rfl rfl ⟨Nat.le_of_ble_eq_true rfl, Nat.le_of_ble_eq_true rfl⟩) hK P_nil rfl hl.1 rfl (Nat.le_of_ble_eq_true rfl) dX9_path_26 ⟨Nat.zero_le _, Nat.zero_le _⟩ ?_
        refine lv_if_ne (tgt := 35) hx hb dX9_path_29 (by decide) (fun c_4 => ?_) (fun c_4 => ?_)
        · skip
          have c_4 := zb_ne0 c_4
          refine lv_aload_n hx hb dX9_path_35 rfl (lv_at hl 0 rfl) ?_
          refine va_get (D := D) (ci := 9) (v := .ref (a 1)) (C := RX9) (T := TX9) (N := 8) hx hb hts hin9 hown hK.1 hP 0 rfl rfl 0 (by decide) (hts _ fl_X9_10) (fun _ h9 => h9) rfl dX9_path_36 ?_
          refine lv_iload_n hx hb dX9_path_39 rfl (lv_at hl 1 rfl) ?_
          refine lv_iload_n hx hb dX9_path_40 rfl (lv_at hl 2 rfl) ?_
          refine ro_V (As := [.int x, .int y]) (rest := []) ⟨hx, hb, hml, hown, hts⟩ (c_X2_joining l D cI cZ a N pb hN16 x y) (cw_X9_81 hts rfl rfl ⟨Nat.le_of_ble_eq_true rfl, Nat.le_of_ble_eq_true rfl⟩) hK (wP_net hP) (ci := 2) rfl rfl rfl hl.1 rfl (Nat.le_of_ble_eq_true rfl) dX9_path_41 ⟨Nat.zero_le _, Nat.zero_le _⟩ ?_
          refine lv_iconst (v := (-1)) hx hb dX9_path_44 (by decide) ?_
          refine lv_icmp_eq (tgt := 51) hx hb dX9_path_45 (by decide) (fun c_5 => ?_) (fun c_5 => ?_)
          · skip
            refine lv_aload_n hx hb dX9_path_51 rfl (lv_at hl 0 rfl) ?_
            refine va_get (D := D) (ci := 9) (v := .ref (a 1)) (C := RX9) (T := TX9) (N := 8) hx hb hts hin9 hown hK.1 hP 0 rfl rfl 0 (by decide) (hts _ fl_X9_10) (fun _ h9 => h9) rfl dX9_path_52 ?_
            refine ro_V (As := []) (rest := []) ⟨hx, hb, hml, hown, hts⟩ (c_X2_pathCount l D cI cZ a N pb hN16) (cw_X9_85 hts rfl rfl ⟨Nat.le_of_ble_eq_true rfl, Nat.le_of_ble_eq_true rfl⟩) hK (wP_net hP) (ci := 2) rfl rfl rfl hl.1 rfl (Nat.le_of_ble_eq_true rfl) dX9_path_55 ⟨Nat.zero_le _, Nat.zero_le _⟩ ?_
            refine lv_bipush (v := 16) hx hb dX9_path_58 (by decide) ?_
            refine lv_icmp_lt (tgt := 68) hx hb dX9_path_60 (by decide) (fun c_6 => ?_) (fun c_6 => ?_)
            · skip
              have hb9 : N_n N < 16 := by have h9 := c_6; rw [show (16 : Int32) = nI 16 from rfl, nI_ltI (by omega) (by omega)] at h9; exact h9
              refine lv_aload_n hx hb dX9_path_68 rfl (lv_at hl 0 rfl) ?_
              refine va_get (D := D) (ci := 9) (v := .ref (a 1)) (C := RX9) (T := TX9) (N := 8) hx hb hts hin9 hown hK.1 hP 0 rfl rfl 0 (by decide) (hts _ fl_X9_10) (fun _ h9 => h9) rfl dX9_path_69 ?_
              refine lv_iload_n hx hb dX9_path_72 rfl (lv_at hl 1 rfl) ?_
              refine lv_iload_n hx hb dX9_path_73 rfl (lv_at hl 2 rfl) ?_
              refine lv_iload_n hx hb dX9_path_74 rfl (lv_at hl 3 rfl) ?_
              refine mi_F (As := [.int x, .int y, .int z]) (rest := []) ⟨hx, hb, hml, hown, hts⟩ (c_X2_join l D cI cZ a N pb hb9 x y z) (cw_X9_89 hts rfl rfl ⟨Nat.le_of_ble_eq_true rfl, Nat.le_of_ble_eq_true rfl⟩) hK (wP_net hP) (wD_net hD) hS (ci := 2) rfl rfl rfl hl.1 rfl (Nat.le_of_ble_eq_true rfl) dX9_path_75 ⟨Nat.zero_le _, Nat.zero_le _⟩ (fun r u H1 locs hp hP1 hk9 hS => ?_)
              obtain ⟨hP, hD⟩ := fX_net hP hD (show va_P D vwCl (wNet a cI (jJoin N x y z) (jJpb N pb x y)) H1 from hP1) hk9
              clear hP1 hk9
              generalize H1 = H at hP hS ⊢
              have hp : r = nI (N_n N) := hp
              subst hp
              exact mu_iret (v := (nI (N_n N))) hx hb hr hlocks ((jJoin N x y z, jJpb N pb x y)) (by show (((nI (N_n N)) : Int32), (jJoin N x y z, jJpb N pb x y)) = jXpath N pb x y z; unfold jXpath; (first | rw [if_pos c_1] | rw [if_neg c_1] | skip); (first | rw [if_pos c_2] | rw [if_neg c_2] | skip); (first | rw [if_pos c_3] | rw [if_neg c_3] | skip); (first | rw [if_pos c_4] | rw [if_neg c_4] | skip); (first | rw [if_pos c_5] | rw [if_neg c_5] | skip); (first | rw [if_pos c_6] | rw [if_neg c_6] | skip)) (hP) hS dX9_path_78
            · skip
              refine lv_bipush (v := (-5)) hx hb dX9_path_63 (by decide) ?_
              refine lv_goto (tgt := 78) hx hb dX9_path_65 (by decide) ?_
              exact mu_iret (v := (-5)) hx hb hr hlocks ((N, pb)) (by show (((-5) : Int32), (N, pb)) = jXpath N pb x y z; unfold jXpath; (first | rw [if_pos c_1] | rw [if_neg c_1] | skip); (first | rw [if_pos c_2] | rw [if_neg c_2] | skip); (first | rw [if_pos c_3] | rw [if_neg c_3] | skip); (first | rw [if_pos c_4] | rw [if_neg c_4] | skip); (first | rw [if_pos c_5] | rw [if_neg c_5] | skip); (first | rw [if_pos c_6] | rw [if_neg c_6] | skip)) (hP) hS dX9_path_78
          · skip
            refine lv_bipush (v := (-4)) hx hb dX9_path_48 (by decide) ?_
            exact mu_iret (v := (-4)) hx hb hr hlocks ((N, pb)) (by show (((-4) : Int32), (N, pb)) = jXpath N pb x y z; unfold jXpath; (first | rw [if_pos c_1] | rw [if_neg c_1] | skip); (first | rw [if_pos c_2] | rw [if_neg c_2] | skip); (first | rw [if_pos c_3] | rw [if_neg c_3] | skip); (first | rw [if_pos c_4] | rw [if_neg c_4] | skip); (first | rw [if_pos c_5] | rw [if_neg c_5] | skip)) (hP) hS dX9_path_50
        · skip
          have c_4 := zb_eq0 c_4
          refine lv_bipush (v := (-3)) hx hb dX9_path_32 (by decide) ?_
          exact mu_iret (v := (-3)) hx hb hr hlocks ((N, pb)) (by show (((-3) : Int32), (N, pb)) = jXpath N pb x y z; unfold jXpath; (first | rw [if_pos c_1] | rw [if_neg c_1] | skip); (first | rw [if_pos c_2] | rw [if_neg c_2] | skip); (first | rw [if_pos c_3] | rw [if_neg c_3] | skip); (first | rw [if_pos c_4] | rw [if_neg c_4] | skip)) (hP) hS dX9_path_34
    · skip
      have c_2 := zb_eq0 c_2
      refine lv_bipush (v := (-2)) hx hb dX9_path_14 (by decide) ?_
      exact mu_iret (v := (-2)) hx hb hr hlocks ((N, pb)) (by show (((-2) : Int32), (N, pb)) = jXpath N pb x y z; unfold jXpath; (first | rw [if_pos c_1] | rw [if_neg c_1] | skip); (first | rw [if_pos c_2] | rw [if_neg c_2] | skip)) (hP) hS dX9_path_16
