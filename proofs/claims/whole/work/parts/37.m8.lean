def mXworst (fo : TF) (z : TZ) (x : Int32) : Int32 × TZ := if 1 ≤ x ∧ x ≤ 3 then ((mBf fo x.toNatClampNeg (x.toNatClampNeg ^ fo.1)).2, mZb z (mBf fo x.toNatClampNeg (x.toNatClampNeg ^ fo.1)).2) else (-3, z)
set_option maxHeartbeats 4000000 in
set_option maxRecDepth 100000 in
theorem c_X10_worst (l : Launch) (D : va_G) (cI cZ : ClassId) (am : Nat → Nat) (N : TN) (hN16 : N_n N ≤ 16) (S : TS) (hS24 : S_n S ≤ 24) (q : TQ) (o : TO) (ho8 : o.1 ≤ 8) (ro : TR) (hr10 : ro.1 ≤ 10) (t : TT) (ht6 : t.1 ≤ 6) (fo : TF) (hf5 : fo.1 ≤ 5) (k : TC) (hk8 : k.2.1 ≤ 8) (z : TZ) (x : Int32) : MI l D cI cZ yX10_worst wyX10_worst ({ frames := 3, cells := 0, slots := 0, locals := 78 } : Room) [.ref (am 0), .int x] (wM am cI cZ N S q o ro t fo k z) (fun r u => (r, u) = mXworst fo z x) (fun (u : TZ) => wM am cI cZ N S q o ro t fo k u) := by
  refine Met.ofW (cc := cX10_worst) (maxL := 2) (ret := (some .int)) (by decide) rfl ?_
  intro p e s m args below meth c s₁ B hml hv
  obtain ⟨rfl, hK, hP, hD0⟩ := hv
  have hx := B.exec
  have hb := B.bytes
  have hr := B.returns
  have hts0 := atoms_spec (ws := wyX10_worst) B.pre
  have hts : ∀ w ∈ big, w.before _ s = true := fun w h => hts0 w (List.mem_cons_of_mem _ h)
  have hown : s.vm.findClass RX10 = some m.cls := findClass_of_methodNamed B.named
  have hlocks := B.notSynchronized
  have hD := D_inW hD0
  have hS : va_S (inW (wM am cI cZ N S q o ro t fo k z)) s.heap s.heap [] := va_S.rf
  have hl := lv_entry ([.ref (am 0), .int x]) (n := 2) (Nat.le_of_ble_eq_true rfl)
  rw [lg_entry_eq]
  generalize (lg_sl ([.ref (am 0), .int x]) ++ List.replicate (2 - (lg_sl ([.ref (am 0), .int x])).length) Slot.unset).toArray = ls at hl ⊢
  have hl : lv_has ls 2 [(0, .ref (am 0)), (1, .int x)] := hl
  refine lv_iload_n hx hb dX10_worst_0 rfl (lv_at hl 1 rfl) ?_
  refine lv_iconst (v := 1) hx hb dX10_worst_1 (by decide) ?_
  refine lv_iconst (v := 3) hx hb dX10_worst_2 (by decide) ?_
  refine ro_S (As := [.int x, .int 1, .int 3]) (rest := []) ⟨hx, hb, hml, hown, hts⟩ (c_X10_in l D cI cZ  x 1 3) (cw_X10_90 hts rfl rfl ⟨Nat.le_of_ble_eq_true rfl, Nat.le_of_ble_eq_true rfl⟩) hK P_nil rfl hl.1 rfl (Nat.le_of_ble_eq_true rfl) dX10_worst_3 ⟨Nat.zero_le _, Nat.zero_le _⟩ ?_
  refine lv_if_ne (tgt := 12) hx hb dX10_worst_6 (by decide) (fun c_1 => ?_) (fun c_1 => ?_)
  · skip
    have c_1 := zb_ne0 c_1
    obtain ⟨hh, hh3, ehh⟩ := h13_of c_1
    have hh0 : 0 < hh := by rcases Nat.eq_zero_or_pos hh with h9 | h9; exact absurd c_1.1 (by rw [ehh, h9]; decide); exact h9
    have hl : lv_has ls 2 [(0, .ref (am 0)), (1, .int (nI hh))] := by rw [← ehh]; exact hl
    rw [ehh] at c_1
    refine lv_aload_n hx hb dX10_worst_12 rfl (lv_at hl 0 rfl) ?_
    refine lv_iload_n hx hb dX10_worst_13 rfl (lv_at hl 1 rfl) ?_
    refine mi_V2 (As := [.int (nI hh)]) (rest := []) ⟨hx, hb, hml, hown, hts⟩ (c_X10_findSplit l D cI cZ am N hN16 S hS24 q o ho8 ro hr10 t ht6 fo hf5 k hk8 z hh hh0 hh3) (cw_X10_193 hts rfl rfl ⟨Nat.le_of_ble_eq_true rfl, Nat.le_of_ble_eq_true rfl⟩) hK hP hD hS 26 rfl [0, 1, 2, 3, 4, 5, 6, 7, 8, 9, 10, 11, 12, 13, 14, 15, 16, 17, 18, 19, 20, 21, 22, 23, 24, 25] [] (fun (_ : Unit) => wM am cI cZ N S q o ro t fo k (mZb z (mBf fo hh (hh ^ fo.1)).2)) rfl (by decide) (fun u => rfl) [(am 0), (am 1), (am 2), (am 3), (am 4), (am 5), (am 6), (am 7), (am 8), (am 9), (am 10), (am 11), (am 12), (am 13), (am 14), (am 15), (am 16), (am 17), (am 18), (am 19), (am 20), (am 21), (am 22), (am 23), (am 24), (am 25)] rfl (fun u => rfl) ([] : va_W) rfl (fun u => rfl) [(am 0), (am 1), (am 2), (am 3), (am 4), (am 5), (am 6), (am 7), (am 8), (am 9), (am 10), (am 11), (am 12), (am 13), (am 14), (am 15), (am 16), (am 17), (am 18), (am 19), (am 20), (am 21), (am 22), (am 23), (am 24), (am 25)] rfl (fun u => rfl) (by decide) (by decide) (by decide) (ci := 10) rfl rfl rfl hl.1 rfl (Nat.le_of_ble_eq_true rfl) dX10_worst_14 ⟨Nat.zero_le _, Nat.zero_le _⟩ (fun r u H locs hp hP hD hS => ?_)
    have hp : r = (mBf fo hh (hh ^ fo.1)).1 := hp
    subst hp
    have hP : va_P D vwCl (wM am cI cZ N S q o ro t fo k (z.1, z.2.1, z.2.2.1, z.2.2.2.1, z.2.2.2.2.1, z.2.2.2.2.2.1, (mBf fo hh (hh ^ fo.1)).2, z.2.2.2.2.2.2.2)) H := hP
    have hD : va_D _ (wM am cI cZ N S q o ro t fo k (z.1, z.2.1, z.2.2.1, z.2.2.2.1, z.2.2.2.2.1, z.2.2.2.2.2.1, (mBf fo hh (hh ^ fo.1)).2, z.2.2.2.2.2.2.2)) := hD
    refine lv_pop hx hb dX10_worst_17 rfl ?_
    refine lv_aload_n hx hb dX10_worst_18 rfl (lv_at hl 0 rfl) ?_
    refine va_get (D := D) (ci := 10) (v := .int ((mBf fo hh (hh ^ fo.1)).2)) (C := RX10) (T := TX10) (N := 41) hx hb hts hin10 hown hK.1 hP 0 rfl rfl 34 (by decide) (hts _ fl_X10_187) (fun _ h9 => h9) rfl dX10_worst_19 ?_
    exact mu_iret (v := (mBf fo hh (hh ^ fo.1)).2) hx hb hr hlocks ((z.1, z.2.1, z.2.2.1, z.2.2.2.1, z.2.2.2.2.1, z.2.2.2.2.2.1, (mBf fo hh (hh ^ fo.1)).2, z.2.2.2.2.2.2.2)) (by show (((mBf fo hh (hh ^ fo.1)).2 : Int32), (z.1, z.2.1, z.2.2.1, z.2.2.2.1, z.2.2.2.2.1, z.2.2.2.2.2.1, (mBf fo hh (hh ^ fo.1)).2, z.2.2.2.2.2.2.2)) = mXworst fo z x; unfold mXworst; rw [ehh, nI_cl (by omega)]; (first | rw [if_pos c_1] | rw [if_neg c_1] | skip); (try rfl)) (hP) hS dX10_worst_22
  · skip
    have c_1 := zb_eq0 c_1
    refine lv_bipush (v := (-3)) hx hb dX10_worst_9 (by decide) ?_
    exact mu_iret (v := (-3)) hx hb hr hlocks (z) (by show (((-3) : Int32), z) = mXworst fo z x; unfold mXworst; (first | rw [if_pos c_1] | rw [if_neg c_1] | skip); (try rfl)) (hP) hS dX10_worst_11

theorem mBf_sp {fo : TF} {hh : Nat} (h0 : 0 < hh) (h3 : hh ≤ 3) (h5 : fo.1 ≤ 5) : ∃ sp : Nat, sp < 2 ^ 31 ∧ (mBf fo hh (hh ^ fo.1)).1 = nI sp := by
  obtain ⟨j, h1, h2⟩ := mBf_lt (fo := fo) (hh := hh) (hh ^ fo.1)
  have := pw_le h3 h5
  exact ⟨j, by omega, h2⟩
def mSp (fo : TF) (hh : Nat) : Nat := (mBf fo hh (hh ^ fo.1)).1.toNatClampNeg
def mXsplit (fo : TF) (z : TZ) (x y v9 : Int32) : Int32 × TZ := if 0 ≤ y ∧ y ≤ nI fo.1 - 1 then if 1 ≤ x ∧ x ≤ 3 then if 0 ≤ v9 ∧ v9 ≤ 1 then if v9 = 0 then (nI (mHo fo.1 x.toNatClampNeg (mSp fo x.toNatClampNeg) y.toNatClampNeg), mZb z (mBf fo x.toNatClampNeg (x.toNatClampNeg ^ fo.1)).2) else (mFa fo x.toNatClampNeg (mSp fo x.toNatClampNeg) y.toNatClampNeg fo.1, mZb z (mBf fo x.toNatClampNeg (x.toNatClampNeg ^ fo.1)).2) else (-3, z) else (-3, z) else (-2, z)
set_option maxHeartbeats 4000000 in
set_option maxRecDepth 100000 in
theorem c_X10_split (l : Launch) (D : va_G) (cI cZ : ClassId) (am : Nat → Nat) (N : TN) (hN16 : N_n N ≤ 16) (S : TS) (hS24 : S_n S ≤ 24) (q : TQ) (o : TO) (ho8 : o.1 ≤ 8) (ro : TR) (hr10 : ro.1 ≤ 10) (t : TT) (ht6 : t.1 ≤ 6) (fo : TF) (hf5 : fo.1 ≤ 5) (k : TC) (hk8 : k.2.1 ≤ 8) (z : TZ) (x y v9 : Int32) : MI l D cI cZ yX10_split wyX10_split ({ frames := 3, cells := 0, slots := 0, locals := 78 } : Room) [.ref (am 0), .int x, .int y, .int v9] (wM am cI cZ N S q o ro t fo k z) (fun r u => (r, u) = mXsplit fo z x y v9) (fun (u : TZ) => wM am cI cZ N S q o ro t fo k u) := by
  refine Met.ofW (cc := cX10_split) (maxL := 5) (ret := (some .int)) (by decide) rfl ?_
  intro p e s m args below meth c s₁ B hml hv
  obtain ⟨rfl, hK, hP, hD0⟩ := hv
  have hx := B.exec
  have hb := B.bytes
  have hr := B.returns
  have hts0 := atoms_spec (ws := wyX10_split) B.pre
  have hts : ∀ w ∈ big, w.before _ s = true := fun w h => hts0 w (List.mem_cons_of_mem _ h)
  have hown : s.vm.findClass RX10 = some m.cls := findClass_of_methodNamed B.named
  have hlocks := B.notSynchronized
  have hD := D_inW hD0
  have hS : va_S (inW (wM am cI cZ N S q o ro t fo k z)) s.heap s.heap [] := va_S.rf
  have hl := lv_entry ([.ref (am 0), .int x, .int y, .int v9]) (n := 5) (Nat.le_of_ble_eq_true rfl)
  rw [lg_entry_eq]
  generalize (lg_sl ([.ref (am 0), .int x, .int y, .int v9]) ++ List.replicate (5 - (lg_sl ([.ref (am 0), .int x, .int y, .int v9])).length) Slot.unset).toArray = ls at hl ⊢
  have hl : lv_has ls 5 [(0, .ref (am 0)), (1, .int x), (2, .int y), (3, .int v9)] := hl
  refine lv_iload_n hx hb dX10_split_0 rfl (lv_at hl 2 rfl) ?_
  refine lv_iconst (v := 0) hx hb dX10_split_1 (by decide) ?_
  refine lv_aload_n hx hb dX10_split_2 rfl (lv_at hl 0 rfl) ?_
  refine va_get (D := D) (ci := 10) (v := .int (nI fo.1)) (C := RX10) (T := TX10) (N := 41) hx hb hts hin10 hown hK.1 hP 0 rfl rfl 32 (by decide) (hts _ fl_X10_180) (fun _ h9 => h9) rfl dX10_split_3 ?_
  refine lv_iconst (v := 1) hx hb dX10_split_6 (by decide) ?_
  refine lv_isub hx hb dX10_split_7 ?_
  refine ro_S (As := [.int y, .int 0, .int ((nI fo.1) - 1)]) (rest := []) ⟨hx, hb, hml, hown, hts⟩ (c_X10_in l D cI cZ  y 0 ((nI fo.1) - 1)) (cw_X10_90 hts rfl rfl ⟨Nat.le_of_ble_eq_true rfl, Nat.le_of_ble_eq_true rfl⟩) hK P_nil rfl hl.1 rfl (Nat.le_of_ble_eq_true rfl) dX10_split_8 ⟨Nat.zero_le _, Nat.zero_le _⟩ ?_
  refine lv_if_ne (tgt := 17) hx hb dX10_split_11 (by decide) (fun c_1 => ?_) (fun c_1 => ?_)
  · skip
    have c_1 := zb_ne0 c_1
    obtain ⟨bj, hbj, ebj⟩ := ix_of (n := fo.1) c_1 (by omega)
    have hl : lv_has ls 5 [(0, .ref (am 0)), (1, .int x), (2, .int (nI bj)), (3, .int v9)] := by rw [← ebj]; exact hl
    rw [ebj] at c_1
    refine lv_iload_n hx hb dX10_split_17 rfl (lv_at hl 1 rfl) ?_
    refine lv_iconst (v := 1) hx hb dX10_split_18 (by decide) ?_
    refine lv_iconst (v := 3) hx hb dX10_split_19 (by decide) ?_
    refine ro_S (As := [.int x, .int 1, .int 3]) (rest := []) ⟨hx, hb, hml, hown, hts⟩ (c_X10_in l D cI cZ  x 1 3) (cw_X10_90 hts rfl rfl ⟨Nat.le_of_ble_eq_true rfl, Nat.le_of_ble_eq_true rfl⟩) hK P_nil rfl hl.1 rfl (Nat.le_of_ble_eq_true rfl) dX10_split_20 ⟨Nat.zero_le _, Nat.zero_le _⟩ ?_
    refine lv_if_eq (tgt := 35) hx hb dX10_split_23 (by decide) (fun c_2 => ?_) (fun c_2 => ?_)
    · skip
      have c_2 := zb_eq0 c_2
      refine lv_bipush (v := (-3)) hx hb dX10_split_35 (by decide) ?_
      exact mu_iret (v := (-3)) hx hb hr hlocks (z) (by show (((-3) : Int32), z) = mXsplit fo z x y v9; unfold mXsplit; rw [ebj]; rw [nI_cl (show bj < 2 ^ 31 by omega)]; (first | rw [if_pos c_1] | rw [if_neg c_1] | skip); (first | rw [if_pos c_2] | rw [if_neg c_2] | skip); (try rfl)) (hP) hS dX10_split_37
    · skip
      have c_2 := zb_ne0 c_2
      obtain ⟨hh, hh3, ehh⟩ := h13_of c_2
      have hh0 : 0 < hh := by rcases Nat.eq_zero_or_pos hh with h9 | h9; exact absurd c_2.1 (by rw [ehh, h9]; decide); exact h9
      have hl : lv_has ls 5 [(0, .ref (am 0)), (1, .int (nI hh)), (2, .int (nI bj)), (3, .int v9)] := by rw [← ehh]; exact hl
      rw [ehh] at c_2
      refine lv_iload_n hx hb dX10_split_26 rfl (lv_at hl 3 rfl) ?_
      refine lv_iconst (v := 0) hx hb dX10_split_27 (by decide) ?_
      refine lv_iconst (v := 1) hx hb dX10_split_28 (by decide) ?_
      refine ro_S (As := [.int v9, .int 0, .int 1]) (rest := []) ⟨hx, hb, hml, hown, hts⟩ (c_X10_in l D cI cZ  v9 0 1) (cw_X10_90 hts rfl rfl ⟨Nat.le_of_ble_eq_true rfl, Nat.le_of_ble_eq_true rfl⟩) hK P_nil rfl hl.1 rfl (Nat.le_of_ble_eq_true rfl) dX10_split_29 ⟨Nat.zero_le _, Nat.zero_le _⟩ ?_
      refine lv_if_ne (tgt := 38) hx hb dX10_split_32 (by decide) (fun c_3 => ?_) (fun c_3 => ?_)
      · skip
        have c_3 := zb_ne0 c_3
        refine lv_aload_n hx hb dX10_split_38 rfl (lv_at hl 0 rfl) ?_
        refine lv_iload_n hx hb dX10_split_39 rfl (lv_at hl 1 rfl) ?_
        refine mi_V2 (As := [.int (nI hh)]) (rest := []) ⟨hx, hb, hml, hown, hts⟩ (c_X10_findSplit l D cI cZ am N hN16 S hS24 q o ho8 ro hr10 t ht6 fo hf5 k hk8 z hh hh0 hh3) (cw_X10_193 hts rfl rfl ⟨Nat.le_of_ble_eq_true rfl, Nat.le_of_ble_eq_true rfl⟩) hK hP hD hS 26 rfl [0, 1, 2, 3, 4, 5, 6, 7, 8, 9, 10, 11, 12, 13, 14, 15, 16, 17, 18, 19, 20, 21, 22, 23, 24, 25] [] (fun (_ : Unit) => wM am cI cZ N S q o ro t fo k (mZb z (mBf fo hh (hh ^ fo.1)).2)) rfl (by decide) (fun u => rfl) [(am 0), (am 1), (am 2), (am 3), (am 4), (am 5), (am 6), (am 7), (am 8), (am 9), (am 10), (am 11), (am 12), (am 13), (am 14), (am 15), (am 16), (am 17), (am 18), (am 19), (am 20), (am 21), (am 22), (am 23), (am 24), (am 25)] rfl (fun u => rfl) ([] : va_W) rfl (fun u => rfl) [(am 0), (am 1), (am 2), (am 3), (am 4), (am 5), (am 6), (am 7), (am 8), (am 9), (am 10), (am 11), (am 12), (am 13), (am 14), (am 15), (am 16), (am 17), (am 18), (am 19), (am 20), (am 21), (am 22), (am 23), (am 24), (am 25)] rfl (fun u => rfl) (by decide) (by decide) (by decide) (ci := 10) rfl rfl rfl hl.1 rfl (Nat.le_of_ble_eq_true rfl) dX10_split_40 ⟨Nat.zero_le _, Nat.zero_le _⟩ (fun r u H locs hp hP hD hS => ?_)
        have hp : r = (mBf fo hh (hh ^ fo.1)).1 := hp
        subst hp
        have hP : va_P D vwCl (wM am cI cZ N S q o ro t fo k (z.1, z.2.1, z.2.2.1, z.2.2.2.1, z.2.2.2.2.1, z.2.2.2.2.2.1, (mBf fo hh (hh ^ fo.1)).2, z.2.2.2.2.2.2.2)) H := hP
        have hD : va_D _ (wM am cI cZ N S q o ro t fo k (z.1, z.2.1, z.2.2.1, z.2.2.2.1, z.2.2.2.2.1, z.2.2.2.2.2.1, (mBf fo hh (hh ^ fo.1)).2, z.2.2.2.2.2.2.2)) := hD
        obtain ⟨sp, hsp, esp⟩ := mBf_sp hh0 hh3 hf5 (fo := fo)
        rw [esp]
        refine lv_istore (lv' := [(4, .int (nI sp)), (0, .ref (am 0)), (1, .int (nI hh)), (2, .int (nI bj)), (3, .int v9)]) hx hb dX10_split_43 hl (by decide) rfl (fun ls hl => ?_)
        refine lv_iload_n hx hb dX10_split_45 rfl (lv_at hl 4 rfl) ?_
        refine lv_if_ne (tgt := 60) hx hb dX10_split_46 (by decide) (fun c_4 => ?_) (fun c_4 => ?_)
        · skip
          refine lv_aload_n hx hb dX10_split_60 rfl (lv_at hl 1 rfl) ?_
          refine lv_iload hx hb dX10_split_61 (lv_at hl 0 rfl) ?_
          refine lv_iload_n hx hb dX10_split_63 rfl (lv_at hl 2 rfl) ?_
          refine lv_iload_n hx hb dX10_split_64 rfl (lv_at hl 3 rfl) ?_
          refine ro_V (As := [.int (nI sp), .int (nI hh), .int (nI bj)]) (rest := []) ⟨hx, hb, hml, hown, hts⟩ (c_X10_foundAt l D cI cZ am N hN16 S hS24 q o ho8 ro hr10 t ht6 fo hf5 k hk8 (z.1, z.2.1, z.2.2.1, z.2.2.2.1, z.2.2.2.2.1, z.2.2.2.2.2.1, (mBf fo hh (hh ^ fo.1)).2, z.2.2.2.2.2.2.2) sp hh bj hsp hh0 hh3 hbj) (cw_X10_190 hts rfl rfl ⟨Nat.le_of_ble_eq_true rfl, Nat.le_of_ble_eq_true rfl⟩) hK hP (ci := 10) rfl rfl rfl hl.1 rfl (Nat.le_of_ble_eq_true rfl) dX10_split_65 ⟨Nat.zero_le _, Nat.zero_le _⟩ ?_
          exact mu_iret (v := (mFa fo hh sp bj fo.1)) hx hb hr hlocks ((z.1, z.2.1, z.2.2.1, z.2.2.2.1, z.2.2.2.2.1, z.2.2.2.2.2.1, (mBf fo hh (hh ^ fo.1)).2, z.2.2.2.2.2.2.2)) (by show (((mFa fo hh sp bj fo.1) : Int32), (z.1, z.2.1, z.2.2.1, z.2.2.2.1, z.2.2.2.2.1, z.2.2.2.2.2.1, (mBf fo hh (hh ^ fo.1)).2, z.2.2.2.2.2.2.2)) = mXsplit fo z x y v9; unfold mXsplit; rw [ebj, ehh]; rw [nI_cl (show hh < 2 ^ 31 by omega)]; rw [nI_cl (show bj < 2 ^ 31 by omega)]; unfold mSp; rw [esp, nI_cl hsp]; (first | rw [if_pos c_1] | rw [if_neg c_1] | skip); (first | rw [if_pos c_2] | rw [if_neg c_2] | skip); (first | rw [if_pos c_3] | rw [if_neg c_3] | skip); (first | rw [if_pos c_4] | rw [if_neg c_4] | skip); (try rfl)) (hP) hS dX10_split_68
        · skip
          refine lv_aload_n hx hb dX10_split_49 rfl (lv_at hl 1 rfl) ?_
          refine lv_iload hx hb dX10_split_50 (lv_at hl 0 rfl) ?_
          refine lv_iload_n hx hb dX10_split_52 rfl (lv_at hl 2 rfl) ?_
          refine lv_iload_n hx hb dX10_split_53 rfl (lv_at hl 3 rfl) ?_
          refine ro_V (As := [.int (nI sp), .int (nI hh), .int (nI bj)]) (rest := []) ⟨hx, hb, hml, hown, hts⟩ (c_X10_houndOf l D cI cZ am N hN16 S hS24 q o ho8 ro hr10 t ht6 fo hf5 k hk8 (z.1, z.2.1, z.2.2.1, z.2.2.2.1, z.2.2.2.2.1, z.2.2.2.2.2.1, (mBf fo hh (hh ^ fo.1)).2, z.2.2.2.2.2.2.2) sp hh bj hsp hh0 hh3 hbj) (cw_X10_183 hts rfl rfl ⟨Nat.le_of_ble_eq_true rfl, Nat.le_of_ble_eq_true rfl⟩) hK hP (ci := 10) rfl rfl rfl hl.1 rfl (Nat.le_of_ble_eq_true rfl) dX10_split_54 ⟨Nat.zero_le _, Nat.zero_le _⟩ ?_
          refine lv_goto (tgt := 68) hx hb dX10_split_57 (by decide) ?_
          exact mu_iret (v := (nI (mHo fo.1 hh sp bj))) hx hb hr hlocks ((z.1, z.2.1, z.2.2.1, z.2.2.2.1, z.2.2.2.2.1, z.2.2.2.2.2.1, (mBf fo hh (hh ^ fo.1)).2, z.2.2.2.2.2.2.2)) (by show (((nI (mHo fo.1 hh sp bj)) : Int32), (z.1, z.2.1, z.2.2.1, z.2.2.2.1, z.2.2.2.2.1, z.2.2.2.2.2.1, (mBf fo hh (hh ^ fo.1)).2, z.2.2.2.2.2.2.2)) = mXsplit fo z x y v9; unfold mXsplit; rw [ebj, ehh]; rw [nI_cl (show hh < 2 ^ 31 by omega)]; rw [nI_cl (show bj < 2 ^ 31 by omega)]; unfold mSp; rw [esp, nI_cl hsp]; (first | rw [if_pos c_1] | rw [if_neg c_1] | skip); (first | rw [if_pos c_2] | rw [if_neg c_2] | skip); (first | rw [if_pos c_3] | rw [if_neg c_3] | skip); (first | rw [if_pos c_4] | rw [if_neg c_4] | skip); (try rfl)) (hP) hS dX10_split_68
      · skip
        have c_3 := zb_eq0 c_3
        refine lv_bipush (v := (-3)) hx hb dX10_split_35 (by decide) ?_
        exact mu_iret (v := (-3)) hx hb hr hlocks (z) (by show (((-3) : Int32), z) = mXsplit fo z x y v9; unfold mXsplit; rw [ebj, ehh]; rw [nI_cl (show hh < 2 ^ 31 by omega)]; rw [nI_cl (show bj < 2 ^ 31 by omega)]; (first | rw [if_pos c_1] | rw [if_neg c_1] | skip); (first | rw [if_pos c_2] | rw [if_neg c_2] | skip); (first | rw [if_pos c_3] | rw [if_neg c_3] | skip); (try rfl)) (hP) hS dX10_split_37
  · skip
    have c_1 := zb_eq0 c_1
    refine lv_bipush (v := (-2)) hx hb dX10_split_14 (by decide) ?_
    exact mu_iret (v := (-2)) hx hb hr hlocks (z) (by show (((-2) : Int32), z) = mXsplit fo z x y v9; unfold mXsplit; (first | rw [if_pos c_1] | rw [if_neg c_1] | skip); (try rfl)) (hP) hS dX10_split_16

def mCl (k : TC) (c9 d9 : Int32) : Nat → Int32
  | 0 => -1
  | i + 1 => if k.2.2.1 i = c9 ∧ k.2.2.2.2 i ≤ d9 ∧ (mCl k c9 d9 i = -1 ∨ k.2.2.2.2 (mCl k c9 d9 i).toNatClampNeg ≤ k.2.2.2.2 i) then nI i else mCl k c9 d9 i
def mCd (k : TC) (c9 v9 d9 : Int32) (i : Nat) : Bool := decide (k.2.2.1 i = c9 ∧ k.2.2.2.2 i ≤ d9 ∧ k.2.2.2.1 i = v9)
theorem mCl_lt {k : TC} {c9 d9 : Int32} : ∀ i, mCl k c9 d9 i = -1 ∨ ∃ j : Nat, j < i ∧ mCl k c9 d9 i = nI j
  | 0 => Or.inl rfl
  | i + 1 => by
    rw [mCl]
    split
    · exact Or.inr ⟨i, by omega, rfl⟩
    · rcases mCl_lt (k := k) (c9 := c9) (d9 := d9) i with h | ⟨j, h1, h2⟩
      · exact Or.inl h
      · exact Or.inr ⟨j, by omega, h2⟩
def mCt (k : TC) (c9 v9 d9 : Int32) : Int32 := if ¬ mCl k c9 d9 k.2.1 = -1 ∧ k.2.2.2.1 (mCl k c9 d9 k.2.1).toNatClampNeg = v9 then 2 else if anyB (mCd k c9 v9 d9) k.2.1 = true then 1 else 0
set_option maxHeartbeats 4000000 in
set_option maxRecDepth 100000 in
theorem c_X10_colourTo (l : Launch) (D : va_G) (cI cZ : ClassId) (am : Nat → Nat) (N : TN) (hN16 : N_n N ≤ 16) (S : TS) (hS24 : S_n S ≤ 24) (q : TQ) (o : TO) (ho8 : o.1 ≤ 8) (ro : TR) (hr10 : ro.1 ≤ 10) (t : TT) (ht6 : t.1 ≤ 6) (fo : TF) (hf5 : fo.1 ≤ 5) (k : TC) (hk8 : k.2.1 ≤ 8) (z : TZ) (c9 v9 d9 : Int32) : RO l D cI cZ yX10_colourTo wyX10_colourTo ({ frames := 0, cells := 0, slots := 0, locals := 0 } : Room) [.ref (am 0), .int c9, .int v9, .int d9] (wM am cI cZ N S q o ro t fo k z) (mCt k c9 v9 d9) := by
  refine Met.ofW (cc := cX10_colourTo) (maxL := 7) (ret := (some .int)) (by decide) rfl ?_
  intro p e s m args below meth c s₁ B hml hv
  obtain ⟨rfl, hK, hP⟩ := hv
  have hx := B.exec
  have hb := B.bytes
  have hr := B.returns
  have hts0 := atoms_spec (ws := wyX10_colourTo) B.pre
  have hts : ∀ w ∈ big, w.before _ s = true := fun w h => hts0 w (List.mem_cons_of_mem _ h)
  have hown : s.vm.findClass RX10 = some m.cls := findClass_of_methodNamed B.named
  have hlocks := B.notSynchronized
  have hl := lv_entry ([.ref (am 0), .int c9, .int v9, .int d9]) (n := 7) (Nat.le_of_ble_eq_true rfl)
  rw [lg_entry_eq]
  generalize (lg_sl ([.ref (am 0), .int c9, .int v9, .int d9]) ++ List.replicate (7 - (lg_sl ([.ref (am 0), .int c9, .int v9, .int d9])).length) Slot.unset).toArray = ls at hl ⊢
  have hl : lv_has ls 7 [(0, .ref (am 0)), (1, .int c9), (2, .int v9), (3, .int d9)] := hl
  refine lv_iconst (v := (-1)) hx hb dX10_colourTo_0 (by decide) ?_
  refine lv_istore (lv' := [(4, .int (-1)), (0, .ref (am 0)), (1, .int c9), (2, .int v9), (3, .int d9)]) hx hb dX10_colourTo_1 hl (by decide) rfl (fun ls hl => ?_)
  refine lv_iconst (v := 0) hx hb dX10_colourTo_3 (by decide) ?_
  refine lv_istore (lv' := [(5, .int 0), (4, .int (-1)), (0, .ref (am 0)), (1, .int c9), (2, .int v9), (3, .int d9)]) hx hb dX10_colourTo_4 hl (by decide) rfl (fun ls hl => ?_)
  refine lv_iconst (v := 0) hx hb dX10_colourTo_6 (by decide) ?_
  refine lv_istore (lv' := [(6, .int 0), (5, .int 0), (4, .int (-1)), (0, .ref (am 0)), (1, .int c9), (2, .int v9), (3, .int d9)]) hx hb dX10_colourTo_7 hl (by decide) rfl (fun ls hl => ?_)
  refine w_loop (α := Nat) (fun a9 => a9 ≤ k.2.1) (fun a9 => k.2.1 - a9) (fun a9 => [(0, .ref (am 0)), (1, .int c9), (2, .int v9), (3, .int d9), (4, .int (mCl k c9 d9 a9)), (5, .int (zb (anyB (mCd k c9 v9 d9) a9 = true))), (6, .int (nI a9))]) 9 7 ?_ 0 (Nat.zero_le _) (show lv_has ls 7 [(0, .ref (am 0)), (1, .int c9), (2, .int v9), (3, .int d9), (4, .int (mCl k c9 d9 0)), (5, .int (zb (anyB (mCd k c9 v9 d9) 0 = true))), (6, .int (nI 0))] from lv_sub hl [3, 4, 5, 6, 2, 1, 0] rfl)
  intro a9 ls hI hl ih_9
  obtain ⟨i, rfl⟩ : ∃ z, z = a9 := ⟨a9, rfl⟩
  have hI : i ≤ k.2.1 := hI
  have hl : lv_has ls 7 [(0, .ref (am 0)), (1, .int c9), (2, .int v9), (3, .int d9), (4, .int (mCl k c9 d9 i)), (5, .int (zb (anyB (mCd k c9 v9 d9) i = true))), (6, .int (nI i))] := hl
  refine lv_iload hx hb dX10_colourTo_9 (lv_at hl 6 rfl) ?_
  refine lv_aload_n hx hb dX10_colourTo_11 rfl (lv_at hl 0 rfl) ?_
  refine va_get (D := D) (ci := 10) (v := .int (nI k.2.1)) (C := RX10) (T := TX10) (N := 41) hx hb hts hin10 hown hK.1 hP 0 rfl rfl 37 (by decide) (hts _ fl_X10_196) (fun _ h9 => h9) rfl dX10_colourTo_12 ?_
  refine lv_icmp_ge (tgt := 101) hx hb dX10_colourTo_15 (by decide) (fun c_1 => ?_) (fun c_1 => ?_)
  · skip
    have hge : k.2.1 ≤ i := zge (by have := hI; omega) (by omega) c_1
    have ein : k.2.1 = i := by have := hI; omega
    refine lv_iload hx hb dX10_colourTo_101 (lv_at hl 4 rfl) ?_
    refine lv_iconst (v := (-1)) hx hb dX10_colourTo_103 (by decide) ?_
    refine lv_icmp_eq (tgt := 122) hx hb dX10_colourTo_104 (by decide) (fun c_2 => ?_) (fun c_2 => ?_)
    · skip
      refine lv_iload hx hb dX10_colourTo_122 (lv_at hl 5 rfl) ?_
      refine lv_if_eq (tgt := 131) hx hb dX10_colourTo_124 (by decide) (fun c_3 => ?_) (fun c_3 => ?_)
      · skip
        have c_3 := zb_eq0 c_3
        refine lv_iconst (v := 0) hx hb dX10_colourTo_131 (by decide) ?_
        exact ro_iret hx hb hr hlocks (by unfold mCt; rw [ein]; rw [if_neg (fun z9 => z9.1 c_2)]; rw [if_neg c_3]) dX10_colourTo_132
      · skip
        have c_3 := zb_ne0 c_3
        refine lv_iconst (v := 1) hx hb dX10_colourTo_127 (by decide) ?_
        refine lv_goto (tgt := 132) hx hb dX10_colourTo_128 (by decide) ?_
        exact ro_iret hx hb hr hlocks (by unfold mCt; rw [ein]; rw [if_neg (fun z9 => z9.1 c_2)]; rw [if_pos c_3]) dX10_colourTo_132
    · skip
      obtain ⟨jj, hjj, ejj⟩ := (mCl_lt (k := k) (c9 := c9) (d9 := d9) i).resolve_left c_2
      refine lv_aload_n hx hb dX10_colourTo_107 rfl (lv_at hl 0 rfl) ?_
      refine va_get (D := D) (ci := 10) (v := .ref (am 24)) (C := RX10) (T := TX10) (N := 41) hx hb hts hin10 hown hK.1 hP 0 rfl rfl 39 (by decide) (hts _ fl_X10_84) (fun _ h9 => h9) rfl dX10_colourTo_108 ?_
      refine lv_iload hx hb dX10_colourTo_111 (lv_at hl 4 rfl) ?_
      refine z_iald hx hb hK.1 hP 24 0 rfl rfl jj ejj (show jj < 8 by omega) (by decide) dX10_colourTo_113 ?_
      refine lv_iload_n hx hb dX10_colourTo_114 rfl (lv_at hl 2 rfl) ?_
      refine lv_icmp_ne (tgt := 122) hx hb dX10_colourTo_115 (by decide) (fun c_4 => ?_) (fun c_4 => ?_)
      · skip
        refine lv_iload hx hb dX10_colourTo_122 (lv_at hl 5 rfl) ?_
        refine lv_if_eq (tgt := 131) hx hb dX10_colourTo_124 (by decide) (fun c_5 => ?_) (fun c_5 => ?_)
        · skip
          have c_5 := zb_eq0 c_5
          refine lv_iconst (v := 0) hx hb dX10_colourTo_131 (by decide) ?_
          exact ro_iret hx hb hr hlocks (by unfold mCt; rw [ein]; rw [if_neg (fun z9 => c_4 (by have h9 := z9.2; rw [ejj, nI_cl (by omega)] at h9; exact h9))]; rw [if_neg c_5]) dX10_colourTo_132
        · skip
          have c_5 := zb_ne0 c_5
          refine lv_iconst (v := 1) hx hb dX10_colourTo_127 (by decide) ?_
          refine lv_goto (tgt := 132) hx hb dX10_colourTo_128 (by decide) ?_
          exact ro_iret hx hb hr hlocks (by unfold mCt; rw [ein]; rw [if_neg (fun z9 => c_4 (by have h9 := z9.2; rw [ejj, nI_cl (by omega)] at h9; exact h9))]; rw [if_pos c_5]) dX10_colourTo_132
      · skip
        refine lv_iconst (v := 2) hx hb dX10_colourTo_118 (by decide) ?_
        refine lv_goto (tgt := 132) hx hb dX10_colourTo_119 (by decide) ?_
        exact ro_iret hx hb hr hlocks (by unfold mCt; rw [ein]; rw [if_pos ⟨c_2, by rw [ejj, nI_cl (by omega)]; exact c_4⟩]) dX10_colourTo_132
  · skip
    have hlt : i < k.2.1 := zlt (by have := hI; omega) (by omega) c_1
    refine lv_aload_n hx hb dX10_colourTo_18 rfl (lv_at hl 0 rfl) ?_
    refine va_get (D := D) (ci := 10) (v := .ref (am 23)) (C := RX10) (T := TX10) (N := 41) hx hb hts hin10 hown hK.1 hP 0 rfl rfl 38 (by decide) (hts _ fl_X10_81) (fun _ h9 => h9) rfl dX10_colourTo_19 ?_
    refine lv_iload hx hb dX10_colourTo_22 (lv_at hl 6 rfl) ?_
    refine z_iald hx hb hK.1 hP 23 0 rfl rfl i rfl (show i < 8 by omega) (by decide) dX10_colourTo_24 ?_
    refine lv_iload_n hx hb dX10_colourTo_25 rfl (lv_at hl 1 rfl) ?_
    refine lv_icmp_ne (tgt := 95) hx hb dX10_colourTo_26 (by decide) (fun c_6 => ?_) (fun c_6 => ?_)
    · skip
      have hl : lv_has ls 7 [(0, .ref (am 0)), (1, .int c9), (2, .int v9), (3, .int d9), (4, .int (mCl k c9 d9 (i + 1))), (5, .int (zb (anyB (mCd k c9 v9 d9) (i + 1) = true))), (6, .int (nI i))] := by rw [show (mCl k c9 d9 (i + 1)) = (mCl k c9 d9 i) from by rw [mCl, if_neg (fun z9 => c_6 z9.1)], show (zb (anyB (mCd k c9 v9 d9) (i + 1) = true)) = (zb (anyB (mCd k c9 v9 d9) i = true)) from zb_congr (by rw [anyB, Bool.or_eq_true]; exact ⟨fun z9 => z9.elim id (fun y9 => by unfold mCd at y9; rw [decide_eq_true_eq] at y9; exact absurd y9 (fun z9 => c_6 z9.1)), Or.inl⟩)]; exact hl
      refine lv_iinc (v := (nI (i + 1))) (lv' := [(6, .int (nI (i + 1))), (0, .ref (am 0)), (1, .int c9), (2, .int v9), (3, .int d9), (4, .int (mCl k c9 d9 (i + 1))), (5, .int (zb (anyB (mCd k c9 v9 d9) (i + 1) = true)))]) hx hb dX10_colourTo_95 hl (k := 6) rfl (nI_add i 1) (by decide) rfl (fun ls hl => ?_)
      refine lv_goto (tgt := 9) hx hb dX10_colourTo_98 (by decide) ?_
      exact ih_9 (i + 1) ls (show (i + 1) ≤ k.2.1 from hlt) (show k.2.1 - (i + 1) < k.2.1 - i from by omega) (show lv_has ls 7 [(0, .ref (am 0)), (1, .int c9), (2, .int v9), (3, .int d9), (4, .int (mCl k c9 d9 (i + 1))), (5, .int (zb (anyB (mCd k c9 v9 d9) (i + 1) = true))), (6, .int (nI (i + 1)))] from lv_sub hl [1, 2, 3, 4, 5, 6, 0] rfl)
    · skip
      refine lv_aload_n hx hb dX10_colourTo_29 rfl (lv_at hl 0 rfl) ?_
      refine va_get (D := D) (ci := 10) (v := .ref (am 25)) (C := RX10) (T := TX10) (N := 41) hx hb hts hin10 hown hK.1 hP 0 rfl rfl 40 (by decide) (hts _ fl_X10_87) (fun _ h9 => h9) rfl dX10_colourTo_30 ?_
      refine lv_iload hx hb dX10_colourTo_33 (lv_at hl 6 rfl) ?_
      refine z_iald hx hb hK.1 hP 25 0 rfl rfl i rfl (show i < 8 by omega) (by decide) dX10_colourTo_35 ?_
      refine lv_iload_n hx hb dX10_colourTo_36 rfl (lv_at hl 3 rfl) ?_
      refine lv_icmp_gt (tgt := 95) hx hb dX10_colourTo_37 (by decide) (fun c_7 => ?_) (fun c_7 => ?_)
      · skip
        have hl : lv_has ls 7 [(0, .ref (am 0)), (1, .int c9), (2, .int v9), (3, .int d9), (4, .int (mCl k c9 d9 (i + 1))), (5, .int (zb (anyB (mCd k c9 v9 d9) (i + 1) = true))), (6, .int (nI i))] := by rw [show (mCl k c9 d9 (i + 1)) = (mCl k c9 d9 i) from by rw [mCl, if_neg (fun z9 => absurd z9.2.1 (Int32.not_le.mpr c_7))], show (zb (anyB (mCd k c9 v9 d9) (i + 1) = true)) = (zb (anyB (mCd k c9 v9 d9) i = true)) from zb_congr (by rw [anyB, Bool.or_eq_true]; exact ⟨fun z9 => z9.elim id (fun y9 => by unfold mCd at y9; rw [decide_eq_true_eq] at y9; exact absurd y9 (fun z9 => absurd z9.2.1 (Int32.not_le.mpr c_7))), Or.inl⟩)]; exact hl
        refine lv_iinc (v := (nI (i + 1))) (lv' := [(6, .int (nI (i + 1))), (0, .ref (am 0)), (1, .int c9), (2, .int v9), (3, .int d9), (4, .int (mCl k c9 d9 (i + 1))), (5, .int (zb (anyB (mCd k c9 v9 d9) (i + 1) = true)))]) hx hb dX10_colourTo_95 hl (k := 6) rfl (nI_add i 1) (by decide) rfl (fun ls hl => ?_)
        refine lv_goto (tgt := 9) hx hb dX10_colourTo_98 (by decide) ?_
        exact ih_9 (i + 1) ls (show (i + 1) ≤ k.2.1 from hlt) (show k.2.1 - (i + 1) < k.2.1 - i from by omega) (show lv_has ls 7 [(0, .ref (am 0)), (1, .int c9), (2, .int v9), (3, .int d9), (4, .int (mCl k c9 d9 (i + 1))), (5, .int (zb (anyB (mCd k c9 v9 d9) (i + 1) = true))), (6, .int (nI (i + 1)))] from lv_sub hl [1, 2, 3, 4, 5, 6, 0] rfl)
      · skip
        refine w_join (α := Int32) (fun a9 => a9 = (mCl k c9 d9 (i + 1))) (fun a9 => [(0, .ref (am 0)), (1, .int c9), (2, .int v9), (3, .int d9), (4, .int (mCl k c9 d9 i)), (5, .int (zb (anyB (mCd k c9 v9 d9) i = true))), (6, .int (nI i))]) (fun a9 => [.int a9]) 70 7 (fun hJ_70 => ?_) ?_
        · skip
          refine lv_iload hx hb dX10_colourTo_40 (lv_at hl 4 rfl) ?_
          refine lv_iconst (v := (-1)) hx hb dX10_colourTo_42 (by decide) ?_
          refine lv_icmp_eq (tgt := 63) hx hb dX10_colourTo_43 (by decide) (fun c_8 => ?_) (fun c_8 => ?_)
          · skip
            refine lv_iload hx hb dX10_colourTo_63 (lv_at hl 6 rfl) ?_
            refine lv_goto (tgt := 70) hx hb dX10_colourTo_65 (by decide) ?_
            exact hJ_70 (nI i) ls (show (nI i) = (mCl k c9 d9 (i + 1)) from by rw [mCl]; simp [c_6, Int32.not_lt.mp c_7, c_8, ← Int32.not_le]) (show lv_has ls 7 [(0, .ref (am 0)), (1, .int c9), (2, .int v9), (3, .int d9), (4, .int (mCl k c9 d9 i)), (5, .int (zb (anyB (mCd k c9 v9 d9) i = true))), (6, .int (nI i))] from lv_sub hl [0, 1, 2, 3, 4, 5, 6] rfl)
          · skip
            obtain ⟨jj, hjj, ejj⟩ := (mCl_lt (k := k) (c9 := c9) (d9 := d9) i).resolve_left c_8
            have hcl : (mCl k c9 d9 i).toNatClampNeg = jj := by rw [ejj, nI_cl (by omega)]
            refine lv_aload_n hx hb dX10_colourTo_46 rfl (lv_at hl 0 rfl) ?_
            refine va_get (D := D) (ci := 10) (v := .ref (am 25)) (C := RX10) (T := TX10) (N := 41) hx hb hts hin10 hown hK.1 hP 0 rfl rfl 40 (by decide) (hts _ fl_X10_87) (fun _ h9 => h9) rfl dX10_colourTo_47 ?_
            refine lv_iload hx hb dX10_colourTo_50 (lv_at hl 6 rfl) ?_
            refine z_iald hx hb hK.1 hP 25 0 rfl rfl i rfl (show i < 8 by omega) (by decide) dX10_colourTo_52 ?_
            refine lv_aload_n hx hb dX10_colourTo_53 rfl (lv_at hl 0 rfl) ?_
            refine va_get (D := D) (ci := 10) (v := .ref (am 25)) (C := RX10) (T := TX10) (N := 41) hx hb hts hin10 hown hK.1 hP 0 rfl rfl 40 (by decide) (hts _ fl_X10_87) (fun _ h9 => h9) rfl dX10_colourTo_54 ?_
            refine lv_iload hx hb dX10_colourTo_57 (lv_at hl 4 rfl) ?_
            refine z_iald hx hb hK.1 hP 25 0 rfl rfl jj ejj (show jj < 8 by omega) (by decide) dX10_colourTo_59 ?_
            refine lv_icmp_lt (tgt := 68) hx hb dX10_colourTo_60 (by decide) (fun c_9 => ?_) (fun c_9 => ?_)
            · skip
              refine lv_iload hx hb dX10_colourTo_68 (lv_at hl 4 rfl) ?_
              exact hJ_70 (mCl k c9 d9 i) ls (show (mCl k c9 d9 i) = (mCl k c9 d9 (i + 1)) from by rw [mCl]; simp [c_6, Int32.not_lt.mp c_7, c_8, Int32.not_le.mpr c_9, hcl, ← Int32.not_le]) (show lv_has ls 7 [(0, .ref (am 0)), (1, .int c9), (2, .int v9), (3, .int d9), (4, .int (mCl k c9 d9 i)), (5, .int (zb (anyB (mCd k c9 v9 d9) i = true))), (6, .int (nI i))] from lv_sub hl [0, 1, 2, 3, 4, 5, 6] rfl)
            · skip
              refine lv_iload hx hb dX10_colourTo_63 (lv_at hl 6 rfl) ?_
              refine lv_goto (tgt := 70) hx hb dX10_colourTo_65 (by decide) ?_
              exact hJ_70 (nI i) ls (show (nI i) = (mCl k c9 d9 (i + 1)) from by rw [mCl]; simp [c_6, Int32.not_lt.mp c_7, c_8, Int32.not_lt.mp c_9, hcl, ← Int32.not_le]) (show lv_has ls 7 [(0, .ref (am 0)), (1, .int c9), (2, .int v9), (3, .int d9), (4, .int (mCl k c9 d9 i)), (5, .int (zb (anyB (mCd k c9 v9 d9) i = true))), (6, .int (nI i))] from lv_sub hl [0, 1, 2, 3, 4, 5, 6] rfl)
        · skip
          intro a9 ls hI hl
          obtain ⟨u9, rfl⟩ : ∃ z, z = a9 := ⟨a9, rfl⟩
          have hI : u9 = (mCl k c9 d9 (i + 1)) := hI
          subst hI
          have hl : lv_has ls 7 [(0, .ref (am 0)), (1, .int c9), (2, .int v9), (3, .int d9), (4, .int (mCl k c9 d9 i)), (5, .int (zb (anyB (mCd k c9 v9 d9) i = true))), (6, .int (nI i))] := hl
          refine lv_istore (lv' := [(4, .int (mCl k c9 d9 (i + 1))), (0, .ref (am 0)), (1, .int c9), (2, .int v9), (3, .int d9), (5, .int (zb (anyB (mCd k c9 v9 d9) i = true))), (6, .int (nI i))]) hx hb dX10_colourTo_70 hl (by decide) rfl (fun ls hl => ?_)
          refine w_join (α := Int32) (fun a9 => a9 = (zb (anyB (mCd k c9 v9 d9) (i + 1) = true))) (fun a9 => [(0, .ref (am 0)), (1, .int c9), (2, .int v9), (3, .int d9), (4, .int (mCl k c9 d9 (i + 1))), (5, .int (zb (anyB (mCd k c9 v9 d9) i = true))), (6, .int (nI i))]) (fun a9 => [.int a9]) 93 7 (fun hJ_93 => ?_) ?_
          · skip
            refine lv_iload hx hb dX10_colourTo_72 (lv_at hl 5 rfl) ?_
            refine lv_if_ne (tgt := 88) hx hb dX10_colourTo_74 (by decide) (fun c_10 => ?_) (fun c_10 => ?_)
            · skip
              have c_10 := zb_ne0 c_10
              refine lv_iconst (v := 1) hx hb dX10_colourTo_88 (by decide) ?_
              refine lv_goto (tgt := 93) hx hb dX10_colourTo_89 (by decide) ?_
              exact hJ_93 1 ls (show 1 = (zb (anyB (mCd k c9 v9 d9) (i + 1) = true)) from (zb_t (by rw [anyB, c_10]; rfl)).symm) (show lv_has ls 7 [(0, .ref (am 0)), (1, .int c9), (2, .int v9), (3, .int d9), (4, .int (mCl k c9 d9 (i + 1))), (5, .int (zb (anyB (mCd k c9 v9 d9) i = true))), (6, .int (nI i))] from lv_sub hl [1, 2, 3, 4, 0, 5, 6] rfl)
            · skip
              have c_10 := zb_eq0 c_10
              refine lv_aload_n hx hb dX10_colourTo_77 rfl (lv_at hl 1 rfl) ?_
              refine va_get (D := D) (ci := 10) (v := .ref (am 24)) (C := RX10) (T := TX10) (N := 41) hx hb hts hin10 hown hK.1 hP 0 rfl rfl 39 (by decide) (hts _ fl_X10_84) (fun _ h9 => h9) rfl dX10_colourTo_78 ?_
              refine lv_iload hx hb dX10_colourTo_81 (lv_at hl 6 rfl) ?_
              refine z_iald hx hb hK.1 hP 24 0 rfl rfl i rfl (show i < 8 by omega) (by decide) dX10_colourTo_83 ?_
              refine lv_iload_n hx hb dX10_colourTo_84 rfl (lv_at hl 3 rfl) ?_
              refine lv_icmp_ne (tgt := 92) hx hb dX10_colourTo_85 (by decide) (fun c_11 => ?_) (fun c_11 => ?_)
              · skip
                refine lv_iconst (v := 0) hx hb dX10_colourTo_92 (by decide) ?_
                exact hJ_93 0 ls (show 0 = (zb (anyB (mCd k c9 v9 d9) (i + 1) = true)) from (zb_f (by rw [anyB, Bool.or_eq_true]; exact fun z9 => z9.elim c_10 (fun y9 => by unfold mCd at y9; rw [decide_eq_true_eq] at y9; exact c_11 y9.2.2))).symm) (show lv_has ls 7 [(0, .ref (am 0)), (1, .int c9), (2, .int v9), (3, .int d9), (4, .int (mCl k c9 d9 (i + 1))), (5, .int (zb (anyB (mCd k c9 v9 d9) i = true))), (6, .int (nI i))] from lv_sub hl [1, 2, 3, 4, 0, 5, 6] rfl)
              · skip
                refine lv_iconst (v := 1) hx hb dX10_colourTo_88 (by decide) ?_
                refine lv_goto (tgt := 93) hx hb dX10_colourTo_89 (by decide) ?_
                exact hJ_93 1 ls (show 1 = (zb (anyB (mCd k c9 v9 d9) (i + 1) = true)) from (zb_t (by rw [anyB, Bool.or_eq_true]; exact Or.inr (by unfold mCd; exact decide_eq_true ⟨c_6, Int32.not_lt.mp c_7, c_11⟩))).symm) (show lv_has ls 7 [(0, .ref (am 0)), (1, .int c9), (2, .int v9), (3, .int d9), (4, .int (mCl k c9 d9 (i + 1))), (5, .int (zb (anyB (mCd k c9 v9 d9) i = true))), (6, .int (nI i))] from lv_sub hl [1, 2, 3, 4, 0, 5, 6] rfl)
          · skip
            intro a9 ls hI hl
            obtain ⟨u9, rfl⟩ : ∃ z, z = a9 := ⟨a9, rfl⟩
            have hI : u9 = (zb (anyB (mCd k c9 v9 d9) (i + 1) = true)) := hI
            subst hI
            have hl : lv_has ls 7 [(0, .ref (am 0)), (1, .int c9), (2, .int v9), (3, .int d9), (4, .int (mCl k c9 d9 (i + 1))), (5, .int (zb (anyB (mCd k c9 v9 d9) i = true))), (6, .int (nI i))] := hl
            refine lv_istore (lv' := [(5, .int (zb (anyB (mCd k c9 v9 d9) (i + 1) = true))), (0, .ref (am 0)), (1, .int c9), (2, .int v9), (3, .int d9), (4, .int (mCl k c9 d9 (i + 1))), (6, .int (nI i))]) hx hb dX10_colourTo_93 hl (by decide) rfl (fun ls hl => ?_)
            refine lv_iinc (v := (nI (i + 1))) (lv' := [(6, .int (nI (i + 1))), (5, .int (zb (anyB (mCd k c9 v9 d9) (i + 1) = true))), (0, .ref (am 0)), (1, .int c9), (2, .int v9), (3, .int d9), (4, .int (mCl k c9 d9 (i + 1)))]) hx hb dX10_colourTo_95 hl (k := 6) rfl (nI_add i 1) (by decide) rfl (fun ls hl => ?_)
            refine lv_goto (tgt := 9) hx hb dX10_colourTo_98 (by decide) ?_
            exact ih_9 (i + 1) ls (show (i + 1) ≤ k.2.1 from hlt) (show k.2.1 - (i + 1) < k.2.1 - i from by omega) (show lv_has ls 7 [(0, .ref (am 0)), (1, .int c9), (2, .int v9), (3, .int d9), (4, .int (mCl k c9 d9 (i + 1))), (5, .int (zb (anyB (mCd k c9 v9 d9) (i + 1) = true))), (6, .int (nI (i + 1)))] from lv_sub hl [2, 3, 4, 5, 6, 1, 0] rfl)

def mWh (k : TC) (x y d9 w9 : Int32) (i : Nat) : Bool := decide (((k.1 i >>> (x &&& 31)) &&& 1) = 1 ∧ mCt k (nI i) y d9 = 2 - w9)
def mWo (k : TC) (x y d9 w9 : Int32) : Nat → Int32
  | 0 => 0
  | i + 1 => mWo k x y d9 w9 i ||| (if mWh k x y d9 w9 i = true then (1 : Int32) <<< (nI i &&& 31) else 0)
def mXwhose (N : TN) (k : TC) (x y d9 w9 : Int32) : Int32 := if 0 ≤ x ∧ x ≤ nI (N_n N) - 1 then if 0 ≤ y ∧ y ≤ 5 then if 0 ≤ d9 ∧ d9 ≤ 400 then if 0 ≤ w9 ∧ w9 ≤ 1 then mWo k x y d9 w9 4 else -3 else -3 else -3 else -2
set_option maxHeartbeats 4000000 in
set_option maxRecDepth 100000 in
theorem c_X10_whose (l : Launch) (D : va_G) (cI cZ : ClassId) (am : Nat → Nat) (N : TN) (hN16 : N_n N ≤ 16) (S : TS) (hS24 : S_n S ≤ 24) (q : TQ) (o : TO) (ho8 : o.1 ≤ 8) (ro : TR) (hr10 : ro.1 ≤ 10) (t : TT) (ht6 : t.1 ≤ 6) (fo : TF) (hf5 : fo.1 ≤ 5) (k : TC) (hk8 : k.2.1 ≤ 8) (z : TZ) (x y d9 w9 : Int32) : RO l D cI cZ yX10_whose wyX10_whose ({ frames := 1, cells := 0, slots := 0, locals := 26 } : Room) [.ref (am 0), .int x, .int y, .int d9, .int w9] (wM am cI cZ N S q o ro t fo k z) (mXwhose N k x y d9 w9) := by
  refine Met.ofW (cc := cX10_whose) (maxL := 8) (ret := (some .int)) (by decide) rfl ?_
  intro p e s m args below meth c s₁ B hml hv
  obtain ⟨rfl, hK, hP⟩ := hv
  have hx := B.exec
  have hb := B.bytes
  have hr := B.returns
  have hts0 := atoms_spec (ws := wyX10_whose) B.pre
  have hts : ∀ w ∈ big, w.before _ s = true := fun w h => hts0 w (List.mem_cons_of_mem _ h)
  have hown : s.vm.findClass RX10 = some m.cls := findClass_of_methodNamed B.named
  have hlocks := B.notSynchronized
  have hl := lv_entry ([.ref (am 0), .int x, .int y, .int d9, .int w9]) (n := 8) (Nat.le_of_ble_eq_true rfl)
  rw [lg_entry_eq]
  generalize (lg_sl ([.ref (am 0), .int x, .int y, .int d9, .int w9]) ++ List.replicate (8 - (lg_sl ([.ref (am 0), .int x, .int y, .int d9, .int w9])).length) Slot.unset).toArray = ls at hl ⊢
  have hl : lv_has ls 8 [(0, .ref (am 0)), (1, .int x), (2, .int y), (3, .int d9), (4, .int w9)] := hl
  refine lv_iload_n hx hb dX10_whose_0 rfl (lv_at hl 1 rfl) ?_
  refine lv_iconst (v := 0) hx hb dX10_whose_1 (by decide) ?_
  refine lv_aload_n hx hb dX10_whose_2 rfl (lv_at hl 0 rfl) ?_
  refine va_get (D := D) (ci := 10) (v := .int (nI (N_n N))) (C := RX10) (T := TX10) (N := 41) hx hb hts hin10 hown hK.1 hP 0 rfl rfl 0 (by decide) (hts _ fl_X10_94) (fun _ h9 => h9) rfl dX10_whose_3 ?_
  refine lv_iconst (v := 1) hx hb dX10_whose_6 (by decide) ?_
  refine lv_isub hx hb dX10_whose_7 ?_
  refine ro_S (As := [.int x, .int 0, .int ((nI (N_n N)) - 1)]) (rest := []) ⟨hx, hb, hml, hown, hts⟩ (c_X10_in l D cI cZ  x 0 ((nI (N_n N)) - 1)) (cw_X10_90 hts rfl rfl ⟨Nat.le_of_ble_eq_true rfl, Nat.le_of_ble_eq_true rfl⟩) hK P_nil rfl hl.1 rfl (Nat.le_of_ble_eq_true rfl) dX10_whose_8 ⟨Nat.zero_le _, Nat.zero_le _⟩ ?_
  refine lv_if_ne (tgt := 17) hx hb dX10_whose_11 (by decide) (fun c_1 => ?_) (fun c_1 => ?_)
  · skip
    have c_1 := zb_ne0 c_1
    refine lv_iload_n hx hb dX10_whose_17 rfl (lv_at hl 2 rfl) ?_
    refine lv_iconst (v := 0) hx hb dX10_whose_18 (by decide) ?_
    refine lv_iconst (v := 5) hx hb dX10_whose_19 (by decide) ?_
    refine ro_S (As := [.int y, .int 0, .int 5]) (rest := []) ⟨hx, hb, hml, hown, hts⟩ (c_X10_in l D cI cZ  y 0 5) (cw_X10_90 hts rfl rfl ⟨Nat.le_of_ble_eq_true rfl, Nat.le_of_ble_eq_true rfl⟩) hK P_nil rfl hl.1 rfl (Nat.le_of_ble_eq_true rfl) dX10_whose_20 ⟨Nat.zero_le _, Nat.zero_le _⟩ ?_
    refine lv_if_eq (tgt := 47) hx hb dX10_whose_23 (by decide) (fun c_2 => ?_) (fun c_2 => ?_)
    · skip
      have c_2 := zb_eq0 c_2
      refine lv_bipush (v := (-3)) hx hb dX10_whose_47 (by decide) ?_
      exact ro_iret hx hb hr hlocks (by show ((-3) : Int32) = mXwhose N k x y d9 w9; unfold mXwhose; (first | rw [if_pos c_1] | rw [if_neg c_1] | skip); (first | rw [if_pos c_2] | rw [if_neg c_2] | skip); (try rfl)) dX10_whose_49
    · skip
      have c_2 := zb_ne0 c_2
      refine lv_iload_n hx hb dX10_whose_26 rfl (lv_at hl 3 rfl) ?_
      refine lv_iconst (v := 0) hx hb dX10_whose_27 (by decide) ?_
      refine lv_sipush (v := 400) hx hb dX10_whose_28 (by decide) ?_
      refine ro_S (As := [.int d9, .int 0, .int 400]) (rest := []) ⟨hx, hb, hml, hown, hts⟩ (c_X10_in l D cI cZ  d9 0 400) (cw_X10_90 hts rfl rfl ⟨Nat.le_of_ble_eq_true rfl, Nat.le_of_ble_eq_true rfl⟩) hK P_nil rfl hl.1 rfl (Nat.le_of_ble_eq_true rfl) dX10_whose_31 ⟨Nat.zero_le _, Nat.zero_le _⟩ ?_
      refine lv_if_eq (tgt := 47) hx hb dX10_whose_34 (by decide) (fun c_3 => ?_) (fun c_3 => ?_)
      · skip
        have c_3 := zb_eq0 c_3
        refine lv_bipush (v := (-3)) hx hb dX10_whose_47 (by decide) ?_
        exact ro_iret hx hb hr hlocks (by show ((-3) : Int32) = mXwhose N k x y d9 w9; unfold mXwhose; (first | rw [if_pos c_1] | rw [if_neg c_1] | skip); (first | rw [if_pos c_2] | rw [if_neg c_2] | skip); (first | rw [if_pos c_3] | rw [if_neg c_3] | skip); (try rfl)) dX10_whose_49
      · skip
        have c_3 := zb_ne0 c_3
        refine lv_iload hx hb dX10_whose_37 (lv_at hl 4 rfl) ?_
        refine lv_iconst (v := 0) hx hb dX10_whose_39 (by decide) ?_
        refine lv_iconst (v := 1) hx hb dX10_whose_40 (by decide) ?_
        refine ro_S (As := [.int w9, .int 0, .int 1]) (rest := []) ⟨hx, hb, hml, hown, hts⟩ (c_X10_in l D cI cZ  w9 0 1) (cw_X10_90 hts rfl rfl ⟨Nat.le_of_ble_eq_true rfl, Nat.le_of_ble_eq_true rfl⟩) hK P_nil rfl hl.1 rfl (Nat.le_of_ble_eq_true rfl) dX10_whose_41 ⟨Nat.zero_le _, Nat.zero_le _⟩ ?_
        refine lv_if_ne (tgt := 50) hx hb dX10_whose_44 (by decide) (fun c_4 => ?_) (fun c_4 => ?_)
        · skip
          have c_4 := zb_ne0 c_4
          refine lv_iconst (v := 0) hx hb dX10_whose_50 (by decide) ?_
          refine lv_istore (lv' := [(5, .int 0), (0, .ref (am 0)), (1, .int x), (2, .int y), (3, .int d9), (4, .int w9)]) hx hb dX10_whose_51 hl (by decide) rfl (fun ls hl => ?_)
          refine lv_iconst (v := 0) hx hb dX10_whose_53 (by decide) ?_
          refine lv_istore (lv' := [(6, .int 0), (5, .int 0), (0, .ref (am 0)), (1, .int x), (2, .int y), (3, .int d9), (4, .int w9)]) hx hb dX10_whose_54 hl (by decide) rfl (fun ls hl => ?_)
          refine w_loop (α := Nat) (fun a9 => a9 ≤ 4) (fun a9 => 4 - a9) (fun a9 => [(0, .ref (am 0)), (1, .int x), (2, .int y), (3, .int d9), (4, .int w9), (5, .int (mWo k x y d9 w9 a9)), (6, .int (nI a9))]) 56 8 ?_ 0 (Nat.zero_le _) (show lv_has ls 8 [(0, .ref (am 0)), (1, .int x), (2, .int y), (3, .int d9), (4, .int w9), (5, .int (mWo k x y d9 w9 0)), (6, .int (nI 0))] from lv_sub hl [2, 3, 4, 5, 6, 1, 0] rfl)
          intro a9 ls hI hl ih_56
          obtain ⟨i, rfl⟩ : ∃ z, z = a9 := ⟨a9, rfl⟩
          have hI : i ≤ 4 := hI
          have hl : lv_has ls 8 [(0, .ref (am 0)), (1, .int x), (2, .int y), (3, .int d9), (4, .int w9), (5, .int (mWo k x y d9 w9 i)), (6, .int (nI i))] := hl
          have hI0 := hI
          refine lv_iload hx hb dX10_whose_56 (lv_at hl 6 rfl) ?_
          refine lv_iconst (v := 4) hx hb dX10_whose_58 (by decide) ?_
          refine lv_icmp_ge (tgt := 123) hx hb dX10_whose_59 (by decide) (fun c_5 => ?_) (fun c_5 => ?_)
          · skip
            have hge : 4 ≤ i := zge (by have := hI; omega) (by omega) c_5
            have ei4 : 4 = i := by have := hI; omega
            refine lv_iload hx hb dX10_whose_123 (lv_at hl 5 rfl) ?_
            exact ro_iret hx hb hr hlocks (by show ((mWo k x y d9 w9 i) : Int32) = mXwhose N k x y d9 w9; unfold mXwhose; rw [ei4]; (first | rw [if_pos c_1] | rw [if_neg c_1] | skip); (first | rw [if_pos c_2] | rw [if_neg c_2] | skip); (first | rw [if_pos c_3] | rw [if_neg c_3] | skip); (first | rw [if_pos c_4] | rw [if_neg c_4] | skip); (try rfl)) dX10_whose_125
          · skip
            have hlt : i < 4 := zlt (by have := hI; omega) (by omega) c_5
            refine w_join (α := Int32) (fun a9 => a9 = (zb (mWh k x y d9 w9 i = true))) (fun a9 => [(0, .ref (am 0)), (1, .int x), (2, .int y), (3, .int d9), (4, .int w9), (5, .int (mWo k x y d9 w9 i)), (6, .int (nI i))]) (fun a9 => [.int a9]) 97 8 (fun hJ_97 => ?_) ?_
            · skip
              refine lv_aload_n hx hb dX10_whose_62 rfl (lv_at hl 0 rfl) ?_
              refine va_get (D := D) (ci := 10) (v := .ref (am 22)) (C := RX10) (T := TX10) (N := 41) hx hb hts hin10 hown hK.1 hP 0 rfl rfl 36 (by decide) (hts _ fl_X10_78) (fun _ h9 => h9) rfl dX10_whose_63 ?_
              refine lv_iload hx hb dX10_whose_66 (lv_at hl 6 rfl) ?_
              refine z_iald hx hb hK.1 hP 22 0 rfl rfl i rfl hlt (by decide) dX10_whose_68 ?_
              refine lv_iload_n hx hb dX10_whose_69 rfl (lv_at hl 1 rfl) ?_
              refine lv_ishr hx hb dX10_whose_70 ?_
              refine lv_iconst (v := 1) hx hb dX10_whose_71 (by decide) ?_
              refine lv_iand hx hb dX10_whose_72 ?_
              refine lv_iconst (v := 1) hx hb dX10_whose_73 (by decide) ?_
              refine lv_icmp_ne (tgt := 96) hx hb dX10_whose_74 (by decide) (fun c_6 => ?_) (fun c_6 => ?_)
              · skip
                refine lv_iconst (v := 0) hx hb dX10_whose_96 (by decide) ?_
                exact hJ_97 0 ls (show 0 = (zb (mWh k x y d9 w9 i = true)) from (zb_f (by unfold mWh; rw [decide_eq_true_eq]; exact fun z9 => c_6 z9.1)).symm) (show lv_has ls 8 [(0, .ref (am 0)), (1, .int x), (2, .int y), (3, .int d9), (4, .int w9), (5, .int (mWo k x y d9 w9 i)), (6, .int (nI i))] from lv_sub hl [0, 1, 2, 3, 4, 5, 6] rfl)
              · skip
                refine lv_aload_n hx hb dX10_whose_77 rfl (lv_at hl 0 rfl) ?_
                refine lv_iload hx hb dX10_whose_78 (lv_at hl 6 rfl) ?_
                refine lv_iload_n hx hb dX10_whose_80 rfl (lv_at hl 2 rfl) ?_
                refine lv_iload_n hx hb dX10_whose_81 rfl (lv_at hl 3 rfl) ?_
                refine ro_V (As := [.int (nI i), .int y, .int d9]) (rest := []) ⟨hx, hb, hml, hown, hts⟩ (c_X10_colourTo l D cI cZ am N hN16 S hS24 q o ho8 ro hr10 t ht6 fo hf5 k hk8 z (nI i) y d9) (cw_X10_199 hts rfl rfl ⟨Nat.le_of_ble_eq_true rfl, Nat.le_of_ble_eq_true rfl⟩) hK hP (ci := 10) rfl rfl rfl hl.1 rfl (Nat.le_of_ble_eq_true rfl) dX10_whose_82 ⟨Nat.zero_le _, Nat.zero_le _⟩ ?_
                refine lv_iconst (v := 2) hx hb dX10_whose_85 (by decide) ?_
                refine lv_iload hx hb dX10_whose_86 (lv_at hl 4 rfl) ?_
                refine lv_isub hx hb dX10_whose_88 ?_
                refine lv_icmp_ne (tgt := 96) hx hb dX10_whose_89 (by decide) (fun c_7 => ?_) (fun c_7 => ?_)
                · skip
                  refine lv_iconst (v := 0) hx hb dX10_whose_96 (by decide) ?_
                  exact hJ_97 0 ls (show 0 = (zb (mWh k x y d9 w9 i = true)) from (zb_f (by unfold mWh; rw [decide_eq_true_eq]; exact fun z9 => c_7 z9.2)).symm) (show lv_has ls 8 [(0, .ref (am 0)), (1, .int x), (2, .int y), (3, .int d9), (4, .int w9), (5, .int (mWo k x y d9 w9 i)), (6, .int (nI i))] from lv_sub hl [0, 1, 2, 3, 4, 5, 6] rfl)
                · skip
                  refine lv_iconst (v := 1) hx hb dX10_whose_92 (by decide) ?_
                  refine lv_goto (tgt := 97) hx hb dX10_whose_93 (by decide) ?_
                  exact hJ_97 1 ls (show 1 = (zb (mWh k x y d9 w9 i = true)) from (zb_t (by unfold mWh; exact decide_eq_true ⟨c_6, c_7⟩)).symm) (show lv_has ls 8 [(0, .ref (am 0)), (1, .int x), (2, .int y), (3, .int d9), (4, .int w9), (5, .int (mWo k x y d9 w9 i)), (6, .int (nI i))] from lv_sub hl [0, 1, 2, 3, 4, 5, 6] rfl)
            · skip
              intro a9 ls hI hl
              obtain ⟨u9, rfl⟩ : ∃ z, z = a9 := ⟨a9, rfl⟩
              have hI : u9 = (zb (mWh k x y d9 w9 i = true)) := hI
              subst hI
              have hl : lv_has ls 8 [(0, .ref (am 0)), (1, .int x), (2, .int y), (3, .int d9), (4, .int w9), (5, .int (mWo k x y d9 w9 i)), (6, .int (nI i))] := hl
              refine lv_istore (lv' := [(7, .int (zb (mWh k x y d9 w9 i = true))), (0, .ref (am 0)), (1, .int x), (2, .int y), (3, .int d9), (4, .int w9), (5, .int (mWo k x y d9 w9 i)), (6, .int (nI i))]) hx hb dX10_whose_97 hl (by decide) rfl (fun ls hl => ?_)
              refine lv_iload hx hb dX10_whose_99 (lv_at hl 6 rfl) ?_
              refine lv_iload hx hb dX10_whose_101 (lv_at hl 0 rfl) ?_
              refine lv_if_eq (tgt := 113) hx hb dX10_whose_103 (by decide) (fun c_8 => ?_) (fun c_8 => ?_)
              · skip
                have c_8 := zb_eq0 c_8
                refine lv_iconst (v := 0) hx hb dX10_whose_113 (by decide) ?_
                refine lv_ior hx hb dX10_whose_114 ?_
                refine lv_istore (lv' := [(5, .int ((mWo k x y d9 w9 i) ||| 0)), (7, .int (zb (mWh k x y d9 w9 i = true))), (0, .ref (am 0)), (1, .int x), (2, .int y), (3, .int d9), (4, .int w9), (6, .int (nI i))]) hx hb dX10_whose_115 hl (by decide) rfl (fun ls hl => ?_)
                have hl : lv_has ls 8 [(5, .int (mWo k x y d9 w9 (i + 1))), (7, .int (zb (mWh k x y d9 w9 i = true))), (0, .ref (am 0)), (1, .int x), (2, .int y), (3, .int d9), (4, .int w9), (6, .int (nI i))] := by rw [show (mWo k x y d9 w9 (i + 1)) = ((mWo k x y d9 w9 i) ||| 0) from by rw [mWo]; simp [c_8]]; exact hl
                refine lv_iinc (v := (nI (i + 1))) (lv' := [(6, .int (nI (i + 1))), (5, .int (mWo k x y d9 w9 (i + 1))), (7, .int (zb (mWh k x y d9 w9 i = true))), (0, .ref (am 0)), (1, .int x), (2, .int y), (3, .int d9), (4, .int w9)]) hx hb dX10_whose_117 hl (k := 7) rfl (nI_add i 1) (by decide) rfl (fun ls hl => ?_)
                refine lv_goto (tgt := 56) hx hb dX10_whose_120 (by decide) ?_
                exact ih_56 (i + 1) ls (show (i + 1) ≤ 4 from hlt) (show 4 - (i + 1) < 4 - i from by omega) (show lv_has ls 8 [(0, .ref (am 0)), (1, .int x), (2, .int y), (3, .int d9), (4, .int w9), (5, .int (mWo k x y d9 w9 (i + 1))), (6, .int (nI (i + 1)))] from lv_sub hl [3, 4, 5, 6, 7, 1, 0] rfl)
              · skip
                have c_8 := zb_ne0 c_8
                refine lv_iconst (v := 1) hx hb dX10_whose_106 (by decide) ?_
                refine lv_iload hx hb dX10_whose_107 (lv_at hl 7 rfl) ?_
                refine lv_ishl hx hb dX10_whose_109 ?_
                refine lv_goto (tgt := 114) hx hb dX10_whose_110 (by decide) ?_
                refine lv_ior hx hb dX10_whose_114 ?_
                refine lv_istore (lv' := [(5, .int ((mWo k x y d9 w9 i) ||| (1 <<< ((nI i) &&& 31)))), (7, .int (zb (mWh k x y d9 w9 i = true))), (0, .ref (am 0)), (1, .int x), (2, .int y), (3, .int d9), (4, .int w9), (6, .int (nI i))]) hx hb dX10_whose_115 hl (by decide) rfl (fun ls hl => ?_)
                have hl : lv_has ls 8 [(5, .int (mWo k x y d9 w9 (i + 1))), (7, .int (zb (mWh k x y d9 w9 i = true))), (0, .ref (am 0)), (1, .int x), (2, .int y), (3, .int d9), (4, .int w9), (6, .int (nI i))] := by rw [show (mWo k x y d9 w9 (i + 1)) = ((mWo k x y d9 w9 i) ||| (1 <<< ((nI i) &&& 31))) from by rw [mWo]; simp [c_8]]; exact hl
                refine lv_iinc (v := (nI (i + 1))) (lv' := [(6, .int (nI (i + 1))), (5, .int (mWo k x y d9 w9 (i + 1))), (7, .int (zb (mWh k x y d9 w9 i = true))), (0, .ref (am 0)), (1, .int x), (2, .int y), (3, .int d9), (4, .int w9)]) hx hb dX10_whose_117 hl (k := 7) rfl (nI_add i 1) (by decide) rfl (fun ls hl => ?_)
                refine lv_goto (tgt := 56) hx hb dX10_whose_120 (by decide) ?_
                exact ih_56 (i + 1) ls (show (i + 1) ≤ 4 from hlt) (show 4 - (i + 1) < 4 - i from by omega) (show lv_has ls 8 [(0, .ref (am 0)), (1, .int x), (2, .int y), (3, .int d9), (4, .int w9), (5, .int (mWo k x y d9 w9 (i + 1))), (6, .int (nI (i + 1)))] from lv_sub hl [3, 4, 5, 6, 7, 1, 0] rfl)
        · skip
          have c_4 := zb_eq0 c_4
          refine lv_bipush (v := (-3)) hx hb dX10_whose_47 (by decide) ?_
          exact ro_iret hx hb hr hlocks (by show ((-3) : Int32) = mXwhose N k x y d9 w9; unfold mXwhose; (first | rw [if_pos c_1] | rw [if_neg c_1] | skip); (first | rw [if_pos c_2] | rw [if_neg c_2] | skip); (first | rw [if_pos c_3] | rw [if_neg c_3] | skip); (first | rw [if_pos c_4] | rw [if_neg c_4] | skip); (try rfl)) dX10_whose_49
  · skip
    have c_1 := zb_eq0 c_1
    refine lv_bipush (v := (-2)) hx hb dX10_whose_14 (by decide) ?_
    exact ro_iret hx hb hr hlocks (by show ((-2) : Int32) = mXwhose N k x y d9 w9; unfold mXwhose; (first | rw [if_pos c_1] | rw [if_neg c_1] | skip); (try rfl)) dX10_whose_16
