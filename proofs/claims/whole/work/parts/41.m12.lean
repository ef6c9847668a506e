theorem mWk_lt {S : TS} {q : TQ} {N : TN} : ∀ (n k : Nat) (g : TW), (mWk S q N n k g).2.1 ≤ k + n
  | 0, k, g => Nat.le_refl _
  | n + 1, k, g => by
    rw [mWk]
    split
    · exact Nat.le_trans (mWk_lt n (k + 1) _) (by omega)
    · exact Nat.le_add_right _ _
theorem mWalk_lt {S : TS} {q : TQ} {N : TN} {z : TZ} {x : Int32} : (mWalk S q N z x).2.1 < 32 := by
  unfold mWalk
  have := mWk_lt (S := S) (q := q) (N := N) 30 0 (x, -1, mCf z.2.2.2.2.1 160, upd z.2.2.2.1 0 x, 0)
  omega
theorem ixs {x : Int32} {n : Nat} (h0 : 0 ≤ x) (h : ¬ nI n < x) (hn : n < 2 ^ 30) : ∃ j : Nat, j < n + 1 ∧ x = nI j := ix_of (n := n + 1) ⟨h0, by rw [show nI (n + 1) - 1 = nI (n + 1 - 1) from pk_sub (a := n + 1) (b := 1) (by omega), Nat.add_sub_cancel]; exact Int32.not_lt.mp h⟩ (by omega)
def mXwalk (N : TN) (S : TS) (q : TQ) (z : TZ) (x y : Int32) : Int32 × TZ := if 0 ≤ x ∧ x ≤ 9 then if 0 ≤ y ∧ y ≤ 3 then ((if y = 0 then (mWalk S q N z x).1 else if y = 1 then (mWalk S q N z x).2.2.2.1 (mWalk S q N z x).2.1 else if y = 2 then nI (mWalk S q N z x).2.1 else (mWalk S q N z x).2.2.1), mZw z (mWalk S q N z x)) else (-3, z) else (-2, z)
set_option maxHeartbeats 4000000 in
set_option maxRecDepth 100000 in
theorem c_X10_walk (l : Launch) (D : va_G) (cI cZ : ClassId) (am : Nat → Nat) (N : TN) (hN16 : N_n N ≤ 16) (S : TS) (hS24 : S_n S ≤ 24) (q : TQ) (o : TO) (ho8 : o.1 ≤ 8) (ro : TR) (hr10 : ro.1 ≤ 10) (t : TT) (ht6 : t.1 ≤ 6) (fo : TF) (hf5 : fo.1 ≤ 5) (k : TC) (hk8 : k.2.1 ≤ 8) (z : TZ) (hNE : NE N) (hSV : SV N S) (x y : Int32) : MI l D cI cZ yX10_walk wyX10_walk ({ frames := 5, cells := 0, slots := 0, locals := 120 } : Room) [.ref (am 0), .int x, .int y] (wM am cI cZ N S q o ro t fo k z) (fun r u => (r, u) = mXwalk N S q z x y) (fun (u : TZ) => wM am cI cZ N S q o ro t fo k u) := by
  refine Met.ofW (cc := cX10_walk) (maxL := 3) (ret := (some .int)) (by decide) rfl ?_
  intro p e s m args below meth c s₁ B hml hv
  obtain ⟨rfl, hK, hP, hD0⟩ := hv
  have hx := B.exec
  have hb := B.bytes
  have hr := B.returns
  have hts0 := atoms_spec (ws := wyX10_walk) B.pre
  have hts : ∀ w ∈ big, w.before _ s = true := fun w h => hts0 w (List.mem_cons_of_mem _ h)
  have hown : s.vm.findClass RX10 = some m.cls := findClass_of_methodNamed B.named
  have hlocks := B.notSynchronized
  have hD := D_inW hD0
  have hS : va_S (inW (wM am cI cZ N S q o ro t fo k z)) s.heap s.heap [] := va_S.rf
  have hl := lv_entry ([.ref (am 0), .int x, .int y]) (n := 3) (Nat.le_of_ble_eq_true rfl)
  rw [lg_entry_eq]
  generalize (lg_sl ([.ref (am 0), .int x, .int y]) ++ List.replicate (3 - (lg_sl ([.ref (am 0), .int x, .int y])).length) Slot.unset).toArray = ls at hl ⊢
  have hl : lv_has ls 3 [(0, .ref (am 0)), (1, .int x), (2, .int y)] := hl
  refine lv_iload_n hx hb dX10_walk_0 rfl (lv_at hl 1 rfl) ?_
  refine ro_S (As := [.int x]) (rest := []) ⟨hx, hb, hml, hown, hts⟩ (c_X10_isPlace l D cI cZ  x) (cw_X10_101 hts rfl rfl ⟨Nat.le_of_ble_eq_true rfl, Nat.le_of_ble_eq_true rfl⟩) hK P_nil rfl hl.1 rfl (Nat.le_of_ble_eq_true rfl) dX10_walk_1 ⟨Nat.zero_le _, Nat.zero_le _⟩ ?_
  refine lv_if_ne (tgt := 10) hx hb dX10_walk_4 (by decide) (fun c_1 => ?_) (fun c_1 => ?_)
  · skip
    have c_1 := zb_ne0 c_1
    obtain ⟨j, hj, ej⟩ := ix_of (n := 10) ⟨c_1.1, by rw [show nI 10 - 1 = 9 from by decide]; exact c_1.2⟩ (by omega)
    have hl : lv_has ls 3 [(0, .ref (am 0)), (1, .int (nI j)), (2, .int y)] := by rw [← ej]; exact hl
    rw [ej] at c_1
    refine lv_iload_n hx hb dX10_walk_10 rfl (lv_at hl 2 rfl) ?_
    refine lv_iconst (v := 0) hx hb dX10_walk_11 (by decide) ?_
    refine lv_iconst (v := 3) hx hb dX10_walk_12 (by decide) ?_
    refine ro_S (As := [.int y, .int 0, .int 3]) (rest := []) ⟨hx, hb, hml, hown, hts⟩ (c_X10_in l D cI cZ  y 0 3) (cw_X10_90 hts rfl rfl ⟨Nat.le_of_ble_eq_true rfl, Nat.le_of_ble_eq_true rfl⟩) hK P_nil rfl hl.1 rfl (Nat.le_of_ble_eq_true rfl) dX10_walk_13 ⟨Nat.zero_le _, Nat.zero_le _⟩ ?_
    refine lv_if_ne (tgt := 22) hx hb dX10_walk_16 (by decide) (fun c_2 => ?_) (fun c_2 => ?_)
    · skip
      have c_2 := zb_ne0 c_2
      refine lv_aload_n hx hb dX10_walk_22 rfl (lv_at hl 0 rfl) ?_
      refine lv_iload_n hx hb dX10_walk_23 rfl (lv_at hl 1 rfl) ?_
      refine mv_V2 (As := [.int (nI j)]) (rest := []) ⟨hx, hb, hml, hown, hts⟩ (c_X10_goWalk l D cI cZ am N hN16 S hS24 q o ho8 ro hr10 t ht6 fo hf5 k hk8 z hNE hSV j hj) (cw_X10_146 hts rfl rfl ⟨Nat.le_of_ble_eq_true rfl, Nat.le_of_ble_eq_true rfl⟩) hK hP hD hS 26 rfl [0, 1, 2, 3, 4, 5, 6, 7, 8, 9, 10, 11, 12, 13, 14, 15, 16, 17, 18, 19, 20, 21, 22, 23, 24, 25] [] (fun (_ : Unit) => wM am cI cZ N S q o ro t fo k (mZw z (mWalk S q N z (nI j)))) rfl (by decide) (fun u => rfl) [(am 0), (am 1), (am 2), (am 3), (am 4), (am 5), (am 6), (am 7), (am 8), (am 9), (am 10), (am 11), (am 12), (am 13), (am 14), (am 15), (am 16), (am 17), (am 18), (am 19), (am 20), (am 21), (am 22), (am 23), (am 24), (am 25)] rfl (fun u => rfl) ([] : va_W) rfl (fun u => rfl) [(am 0), (am 1), (am 2), (am 3), (am 4), (am 5), (am 6), (am 7), (am 8), (am 9), (am 10), (am 11), (am 12), (am 13), (am 14), (am 15), (am 16), (am 17), (am 18), (am 19), (am 20), (am 21), (am 22), (am 23), (am 24), (am 25)] rfl (fun u => rfl) (by decide) (by decide) (by decide) (ci := 10) rfl rfl rfl hl.1 rfl (Nat.le_of_ble_eq_true rfl) dX10_walk_24 ⟨Nat.zero_le _, Nat.zero_le _⟩ (fun u H locs hp hP hD hS => ?_)
      have hw9 : (mWalk S q N z (nI j)).2.1 < 32 := mWalk_lt
      have hP : va_P D vwCl (wM am cI cZ N S q o ro t fo k ((mWalk S q N z (nI j)).1, (nI (mWalk S q N z (nI j)).2.1), (mWalk S q N z (nI j)).2.2.1, (mWalk S q N z (nI j)).2.2.2.1, (mWalk S q N z (nI j)).2.2.2.2, z.2.2.2.2.2.1, z.2.2.2.2.2.2.1, z.2.2.2.2.2.2.2)) H := hP
      have hD : va_D _ (wM am cI cZ N S q o ro t fo k ((mWalk S q N z (nI j)).1, (nI (mWalk S q N z (nI j)).2.1), (mWalk S q N z (nI j)).2.2.1, (mWalk S q N z (nI j)).2.2.2.1, (mWalk S q N z (nI j)).2.2.2.2, z.2.2.2.2.2.1, z.2.2.2.2.2.2.1, z.2.2.2.2.2.2.2)) := hD
      refine lv_iload_n hx hb dX10_walk_27 rfl (lv_at hl 2 rfl) ?_
      refine lv_if_ne (tgt := 38) hx hb dX10_walk_28 (by decide) (fun c_3 => ?_) (fun c_3 => ?_)
      · skip
        refine lv_iload_n hx hb dX10_walk_38 rfl (lv_at hl 2 rfl) ?_
        refine lv_iconst (v := 1) hx hb dX10_walk_39 (by decide) ?_
        refine lv_icmp_ne (tgt := 55) hx hb dX10_walk_40 (by decide) (fun c_4 => ?_) (fun c_4 => ?_)
        · skip
          refine lv_iload_n hx hb dX10_walk_55 rfl (lv_at hl 2 rfl) ?_
          refine lv_iconst (v := 2) hx hb dX10_walk_56 (by decide) ?_
          refine lv_icmp_ne (tgt := 67) hx hb dX10_walk_57 (by decide) (fun c_5 => ?_) (fun c_5 => ?_)
          · skip
            refine lv_aload_n hx hb dX10_walk_67 rfl (lv_at hl 0 rfl) ?_
            refine va_get (D := D) (ci := 10) (v := .int ((mWalk S q N z (nI j)).2.2.1)) (C := RX10) (T := TX10) (N := 41) hx hb hts hin10 hown hK.1 hP 0 rfl rfl 20 (by decide) (hts _ fl_X10_134) (fun _ h9 => h9) rfl dX10_walk_68 ?_
            exact mu_iret (v := (mWalk S q N z (nI j)).2.2.1) hx hb hr hlocks ((mZw z (mWalk S q N z (nI j)))) (by show (((mWalk S q N z (nI j)).2.2.1 : Int32), (mZw z (mWalk S q N z (nI j)))) = mXwalk N S q z x y; unfold mXwalk; rw [ej]; (first | rw [if_pos c_1] | rw [if_neg c_1] | skip); (first | rw [if_pos c_2] | rw [if_neg c_2] | skip); (first | rw [if_pos c_3] | rw [if_neg c_3] | skip); (first | rw [if_pos c_4] | rw [if_neg c_4] | skip); (first | rw [if_pos c_5] | rw [if_neg c_5] | skip); (try rfl)) (hP) hS dX10_walk_71
          · skip
            refine lv_aload_n hx hb dX10_walk_60 rfl (lv_at hl 0 rfl) ?_
            refine va_get (D := D) (ci := 10) (v := .int (nI (mWalk S q N z (nI j)).2.1)) (C := RX10) (T := TX10) (N := 41) hx hb hts hin10 hown hK.1 hP 0 rfl rfl 19 (by decide) (hts _ fl_X10_131) (fun _ h9 => h9) rfl dX10_walk_61 ?_
            refine lv_goto (tgt := 71) hx hb dX10_walk_64 (by decide) ?_
            exact mu_iret (v := (nI (mWalk S q N z (nI j)).2.1)) hx hb hr hlocks ((mZw z (mWalk S q N z (nI j)))) (by show (((nI (mWalk S q N z (nI j)).2.1) : Int32), (mZw z (mWalk S q N z (nI j)))) = mXwalk N S q z x y; unfold mXwalk; rw [ej]; (first | rw [if_pos c_1] | rw [if_neg c_1] | skip); (first | rw [if_pos c_2] | rw [if_neg c_2] | skip); (first | rw [if_pos c_3] | rw [if_neg c_3] | skip); (first | rw [if_pos c_4] | rw [if_neg c_4] | skip); (first | rw [if_pos c_5] | rw [if_neg c_5] | skip); (try rfl)) (hP) hS dX10_walk_71
        · skip
          refine lv_aload_n hx hb dX10_walk_43 rfl (lv_at hl 0 rfl) ?_
          refine va_get (D := D) (ci := 10) (v := .ref (am 12)) (C := RX10) (T := TX10) (N := 41) hx hb hts hin10 hown hK.1 hP 0 rfl rfl 21 (by decide) (hts _ fl_X10_48) (fun _ h9 => h9) rfl dX10_walk_44 ?_
          refine lv_aload_n hx hb dX10_walk_47 rfl (lv_at hl 0 rfl) ?_
          refine va_get (D := D) (ci := 10) (v := .int (nI (mWalk S q N z (nI j)).2.1)) (C := RX10) (T := TX10) (N := 41) hx hb hts hin10 hown hK.1 hP 0 rfl rfl 19 (by decide) (hts _ fl_X10_131) (fun _ h9 => h9) rfl dX10_walk_48 ?_
          refine z_iald hx hb hK.1 hP 12 0 rfl rfl ((mWalk S q N z (nI j)).2.1) rfl hw9 (by decide) dX10_walk_51 ?_
          refine lv_goto (tgt := 71) hx hb dX10_walk_52 (by decide) ?_
          exact mu_iret (v := (((mWalk S q N z (nI j)).2.2.2.1) ((mWalk S q N z (nI j)).2.1))) hx hb hr hlocks ((mZw z (mWalk S q N z (nI j)))) (by show (((((mWalk S q N z (nI j)).2.2.2.1) ((mWalk S q N z (nI j)).2.1)) : Int32), (mZw z (mWalk S q N z (nI j)))) = mXwalk N S q z x y; unfold mXwalk; rw [ej]; (first | rw [if_pos c_1] | rw [if_neg c_1] | skip); (first | rw [if_pos c_2] | rw [if_neg c_2] | skip); (first | rw [if_pos c_3] | rw [if_neg c_3] | skip); (first | rw [if_pos c_4] | rw [if_neg c_4] | skip); (try rfl)) (hP) hS dX10_walk_71
      · skip
        refine lv_aload_n hx hb dX10_walk_31 rfl (lv_at hl 0 rfl) ?_
        refine va_get (D := D) (ci := 10) (v := .int ((mWalk S q N z (nI j)).1)) (C := RX10) (T := TX10) (N := 41) hx hb hts hin10 hown hK.1 hP 0 rfl rfl 18 (by decide) (hts _ fl_X10_137) (fun _ h9 => h9) rfl dX10_walk_32 ?_
        refine lv_goto (tgt := 71) hx hb dX10_walk_35 (by decide) ?_
        exact mu_iret (v := (mWalk S q N z (nI j)).1) hx hb hr hlocks ((mZw z (mWalk S q N z (nI j)))) (by show (((mWalk S q N z (nI j)).1 : Int32), (mZw z (mWalk S q N z (nI j)))) = mXwalk N S q z x y; unfold mXwalk; rw [ej]; (first | rw [if_pos c_1] | rw [if_neg c_1] | skip); (first | rw [if_pos c_2] | rw [if_neg c_2] | skip); (first | rw [if_pos c_3] | rw [if_neg c_3] | skip); (try rfl)) (hP) hS dX10_walk_71
    · skip
      have c_2 := zb_eq0 c_2
      refine lv_bipush (v := (-3)) hx hb dX10_walk_19 (by decide) ?_
      exact mu_iret (v := (-3)) hx hb hr hlocks (z) (by show (((-3) : Int32), z) = mXwalk N S q z x y; unfold mXwalk; rw [ej]; (first | rw [if_pos c_1] | rw [if_neg c_1] | skip); (first | rw [if_pos c_2] | rw [if_neg c_2] | skip); (try rfl)) (hP) hS dX10_walk_21
  · skip
    have c_1 := zb_eq0 c_1
    refine lv_bipush (v := (-2)) hx hb dX10_walk_7 (by decide) ?_
    exact mu_iret (v := (-2)) hx hb hr hlocks (z) (by show (((-2) : Int32), z) = mXwalk N S q z x y; unfold mXwalk; (first | rw [if_pos c_1] | rw [if_neg c_1] | skip); (try rfl)) (hP) hS dX10_walk_9

def mXwalked (N : TN) (S : TS) (q : TQ) (z : TZ) (x y : Int32) : Int32 × TZ := if 0 ≤ x ∧ x ≤ 9 then if 0 ≤ y then ((if y ≤ nI (mWalk S q N z x).2.1 then (mWalk S q N z x).2.2.2.1 y.toNatClampNeg else -1), mZw z (mWalk S q N z x)) else (-3, z) else (-2, z)
set_option maxHeartbeats 4000000 in
set_option maxRecDepth 100000 in
theorem c_X10_walked (l : Launch) (D : va_G) (cI cZ : ClassId) (am : Nat → Nat) (N : TN) (hN16 : N_n N ≤ 16) (S : TS) (hS24 : S_n S ≤ 24) (q : TQ) (o : TO) (ho8 : o.1 ≤ 8) (ro : TR) (hr10 : ro.1 ≤ 10) (t : TT) (ht6 : t.1 ≤ 6) (fo : TF) (hf5 : fo.1 ≤ 5) (k : TC) (hk8 : k.2.1 ≤ 8) (z : TZ) (hNE : NE N) (hSV : SV N S) (x y : Int32) : MI l D cI cZ yX10_walked wyX10_walked ({ frames := 5, cells := 0, slots := 0, locals := 120 } : Room) [.ref (am 0), .int x, .int y] (wM am cI cZ N S q o ro t fo k z) (fun r u => (r, u) = mXwalked N S q z x y) (fun (u : TZ) => wM am cI cZ N S q o ro t fo k u) := by
  refine Met.ofW (cc := cX10_walked) (maxL := 3) (ret := (some .int)) (by decide) rfl ?_
  intro p e s m args below meth c s₁ B hml hv
  obtain ⟨rfl, hK, hP, hD0⟩ := hv
  have hx := B.exec
  have hb := B.bytes
  have hr := B.returns
  have hts0 := atoms_spec (ws := wyX10_walked) B.pre
  have hts : ∀ w ∈ big, w.before _ s = true := fun w h => hts0 w (List.mem_cons_of_mem _ h)
  have hown : s.vm.findClass RX10 = some m.cls := findClass_of_methodNamed B.named
  have hlocks := B.notSynchronized
  have hD := D_inW hD0
  have hS : va_S (inW (wM am cI cZ N S q o ro t fo k z)) s.heap s.heap [] := va_S.rf
  have hl := lv_entry ([.ref (am 0), .int x, .int y]) (n := 3) (Nat.le_of_ble_eq_true rfl)
  rw [lg_entry_eq]
  generalize (lg_sl ([.ref (am 0), .int x, .int y]) ++ List.replicate (3 - (lg_sl ([.ref (am 0), .int x, .int y])).length) Slot.unset).toArray = ls at hl ⊢
  have hl : lv_has ls 3 [(0, .ref (am 0)), (1, .int x), (2, .int y)] := hl
  refine lv_iload_n hx hb dX10_walked_0 rfl (lv_at hl 1 rfl) ?_
  refine ro_S (As := [.int x]) (rest := []) ⟨hx, hb, hml, hown, hts⟩ (c_X10_isPlace l D cI cZ  x) (cw_X10_101 hts rfl rfl ⟨Nat.le_of_ble_eq_true rfl, Nat.le_of_ble_eq_true rfl⟩) hK P_nil rfl hl.1 rfl (Nat.le_of_ble_eq_true rfl) dX10_walked_1 ⟨Nat.zero_le _, Nat.zero_le _⟩ ?_
  refine lv_if_ne (tgt := 10) hx hb dX10_walked_4 (by decide) (fun c_1 => ?_) (fun c_1 => ?_)
  · skip
    have c_1 := zb_ne0 c_1
    obtain ⟨j, hj, ej⟩ := ix_of (n := 10) ⟨c_1.1, by rw [show nI 10 - 1 = 9 from by decide]; exact c_1.2⟩ (by omega)
    have hl : lv_has ls 3 [(0, .ref (am 0)), (1, .int (nI j)), (2, .int y)] := by rw [← ej]; exact hl
    rw [ej] at c_1
    refine lv_iload_n hx hb dX10_walked_10 rfl (lv_at hl 2 rfl) ?_
    refine lv_if_ge (tgt := 17) hx hb dX10_walked_11 (by decide) (fun c_2 => ?_) (fun c_2 => ?_)
    · skip
      have hy0 : 0 ≤ y := c_2
      refine lv_aload_n hx hb dX10_walked_17 rfl (lv_at hl 0 rfl) ?_
      refine lv_iload_n hx hb dX10_walked_18 rfl (lv_at hl 1 rfl) ?_
      refine mv_V2 (As := [.int (nI j)]) (rest := []) ⟨hx, hb, hml, hown, hts⟩ (c_X10_goWalk l D cI cZ am N hN16 S hS24 q o ho8 ro hr10 t ht6 fo hf5 k hk8 z hNE hSV j hj) (cw_X10_146 hts rfl rfl ⟨Nat.le_of_ble_eq_true rfl, Nat.le_of_ble_eq_true rfl⟩) hK hP hD hS 26 rfl [0, 1, 2, 3, 4, 5, 6, 7, 8, 9, 10, 11, 12, 13, 14, 15, 16, 17, 18, 19, 20, 21, 22, 23, 24, 25] [] (fun (_ : Unit) => wM am cI cZ N S q o ro t fo k (mZw z (mWalk S q N z (nI j)))) rfl (by decide) (fun u => rfl) [(am 0), (am 1), (am 2), (am 3), (am 4), (am 5), (am 6), (am 7), (am 8), (am 9), (am 10), (am 11), (am 12), (am 13), (am 14), (am 15), (am 16), (am 17), (am 18), (am 19), (am 20), (am 21), (am 22), (am 23), (am 24), (am 25)] rfl (fun u => rfl) ([] : va_W) rfl (fun u => rfl) [(am 0), (am 1), (am 2), (am 3), (am 4), (am 5), (am 6), (am 7), (am 8), (am 9), (am 10), (am 11), (am 12), (am 13), (am 14), (am 15), (am 16), (am 17), (am 18), (am 19), (am 20), (am 21), (am 22), (am 23), (am 24), (am 25)] rfl (fun u => rfl) (by decide) (by decide) (by decide) (ci := 10) rfl rfl rfl hl.1 rfl (Nat.le_of_ble_eq_true rfl) dX10_walked_19 ⟨Nat.zero_le _, Nat.zero_le _⟩ (fun u H locs hp hP hD hS => ?_)
      have hw9 : (mWalk S q N z (nI j)).2.1 < 32 := mWalk_lt
      have hP : va_P D vwCl (wM am cI cZ N S q o ro t fo k ((mWalk S q N z (nI j)).1, (nI (mWalk S q N z (nI j)).2.1), (mWalk S q N z (nI j)).2.2.1, (mWalk S q N z (nI j)).2.2.2.1, (mWalk S q N z (nI j)).2.2.2.2, z.2.2.2.2.2.1, z.2.2.2.2.2.2.1, z.2.2.2.2.2.2.2)) H := hP
      have hD : va_D _ (wM am cI cZ N S q o ro t fo k ((mWalk S q N z (nI j)).1, (nI (mWalk S q N z (nI j)).2.1), (mWalk S q N z (nI j)).2.2.1, (mWalk S q N z (nI j)).2.2.2.1, (mWalk S q N z (nI j)).2.2.2.2, z.2.2.2.2.2.1, z.2.2.2.2.2.2.1, z.2.2.2.2.2.2.2)) := hD
      refine lv_iload_n hx hb dX10_walked_22 rfl (lv_at hl 2 rfl) ?_
      refine lv_aload_n hx hb dX10_walked_23 rfl (lv_at hl 0 rfl) ?_
      refine va_get (D := D) (ci := 10) (v := .int (nI (mWalk S q N z (nI j)).2.1)) (C := RX10) (T := TX10) (N := 41) hx hb hts hin10 hown hK.1 hP 0 rfl rfl 19 (by decide) (hts _ fl_X10_131) (fun _ h9 => h9) rfl dX10_walked_24 ?_
      refine lv_icmp_gt (tgt := 39) hx hb dX10_walked_27 (by decide) (fun c_3 => ?_) (fun c_3 => ?_)
      · skip
        have hle := Int32.not_le.mpr c_3
        refine lv_iconst (v := (-1)) hx hb dX10_walked_39 (by decide) ?_
        exact mu_iret (v := (-1)) hx hb hr hlocks ((mZw z (mWalk S q N z (nI j)))) (by show (((-1) : Int32), (mZw z (mWalk S q N z (nI j)))) = mXwalked N S q z x y; unfold mXwalked; rw [ej]; (first | rw [if_pos c_1] | rw [if_neg c_1] | skip); (first | rw [if_pos c_2] | rw [if_neg c_2] | skip); (first | rw [if_pos hle] | rw [if_neg hle] | skip); (try rfl)) (hP) hS dX10_walked_40
      · skip
        obtain ⟨i9, hi9, ei9⟩ := ixs hy0 c_3 (by omega)
        have hle := Int32.not_lt.mp c_3
        refine lv_aload_n hx hb dX10_walked_30 rfl (lv_at hl 0 rfl) ?_
        refine va_get (D := D) (ci := 10) (v := .ref (am 12)) (C := RX10) (T := TX10) (N := 41) hx hb hts hin10 hown hK.1 hP 0 rfl rfl 21 (by decide) (hts _ fl_X10_48) (fun _ h9 => h9) rfl dX10_walked_31 ?_
        refine lv_iload_n hx hb dX10_walked_34 rfl (lv_at hl 2 rfl) ?_
        refine z_iald hx hb hK.1 hP 12 0 rfl rfl i9 ei9 (show i9 < 32 by omega) (by decide) dX10_walked_35 ?_
        refine lv_goto (tgt := 40) hx hb dX10_walked_36 (by decide) ?_
        exact mu_iret (v := (((mWalk S q N z (nI j)).2.2.2.1) i9)) hx hb hr hlocks ((mZw z (mWalk S q N z (nI j)))) (by show (((((mWalk S q N z (nI j)).2.2.2.1) i9) : Int32), (mZw z (mWalk S q N z (nI j)))) = mXwalked N S q z x y; unfold mXwalked; rw [ej]; (first | rw [if_pos c_1] | rw [if_neg c_1] | skip); (first | rw [if_pos c_2] | rw [if_neg c_2] | skip); (first | rw [if_pos hle] | rw [if_neg hle] | skip); (try rfl); rw [ei9, nI_cl (by omega)]) (hP) hS dX10_walked_40
    · skip
      refine lv_bipush (v := (-3)) hx hb dX10_walked_14 (by decide) ?_
      exact mu_iret (v := (-3)) hx hb hr hlocks (z) (by show (((-3) : Int32), z) = mXwalked N S q z x y; unfold mXwalked; rw [ej]; (first | rw [if_pos c_1] | rw [if_neg c_1] | skip); (first | rw [if_pos c_2] | rw [if_neg c_2] | skip); (try rfl)) (hP) hS dX10_walked_16
  · skip
    have c_1 := zb_eq0 c_1
    refine lv_bipush (v := (-2)) hx hb dX10_walked_7 (by decide) ?_
    exact mu_iret (v := (-2)) hx hb hr hlocks (z) (by show (((-2) : Int32), z) = mXwalked N S q z x y; unfold mXwalked; (first | rw [if_pos c_1] | rw [if_neg c_1] | skip); (try rfl)) (hP) hS dX10_walked_9
