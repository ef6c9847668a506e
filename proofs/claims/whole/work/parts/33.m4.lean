def mXforget (o : TO) : Int32 × TO := (nI o.1, (0, o.2))
set_option maxHeartbeats 4000000 in
set_option maxRecDepth 100000 in
theorem c_X10_forget (l : Launch) (D : va_G) (cI cZ : ClassId) (am : Nat → Nat) (N : TN) (hN16 : N_n N ≤ 16) (S : TS) (hS24 : S_n S ≤ 24) (q : TQ) (o : TO) (ho8 : o.1 ≤ 8) (ro : TR) (hr10 : ro.1 ≤ 10) (t : TT) (ht6 : t.1 ≤ 6) (fo : TF) (hf5 : fo.1 ≤ 5) (k : TC) (hk8 : k.2.1 ≤ 8) (z : TZ) : MI l D cI cZ yX10_forget wyX10_forget ({ frames := 0, cells := 0, slots := 0, locals := 0 } : Room) [.ref (am 0)] (wM am cI cZ N S q o ro t fo k z) (fun r u => (r, u) = mXforget o) (fun (u : TO) => wM am cI cZ N S q u ro t fo k z) := by
  refine Met.ofW (cc := cX10_forget) (maxL := 2) (ret := (some .int)) (by decide) rfl ?_
  intro p e s m args below meth c s₁ B hml hv
  obtain ⟨rfl, hK, hP, hD0⟩ := hv
  have hx := B.exec
  have hb := B.bytes
  have hr := B.returns
  have hts0 := atoms_spec (ws := wyX10_forget) B.pre
  have hts : ∀ w ∈ big, w.before _ s = true := fun w h => hts0 w (List.mem_cons_of_mem _ h)
  have hown : s.vm.findClass RX10 = some m.cls := findClass_of_methodNamed B.named
  have hlocks := B.notSynchronized
  have hD := D_inW hD0
  have hS : va_S (inW (wM am cI cZ N S q o ro t fo k z)) s.heap s.heap [] := va_S.rf
  have hl := lv_entry ([.ref (am 0)]) (n := 2) (Nat.le_of_ble_eq_true rfl)
  rw [lg_entry_eq]
  generalize (lg_sl ([.ref (am 0)]) ++ List.replicate (2 - (lg_sl ([.ref (am 0)])).length) Slot.unset).toArray = ls at hl ⊢
  have hl : lv_has ls 2 [(0, .ref (am 0))] := hl
  refine lv_aload_n hx hb dX10_forget_0 rfl (lv_at hl 0 rfl) ?_
  refine va_get (D := D) (ci := 10) (v := .int (nI o.1)) (C := RX10) (T := TX10) (N := 41) hx hb hts hin10 hown hK.1 hP 0 rfl rfl 23 (by decide) (hts _ fl_X10_150) (fun _ h9 => h9) rfl dX10_forget_1 ?_
  refine lv_istore_n (lv' := [(1, .int (nI o.1)), (0, .ref (am 0))]) hx hb dX10_forget_4 rfl hl (by decide) rfl (fun ls hl => ?_)
  refine lv_aload_n hx hb dX10_forget_5 rfl (lv_at hl 1 rfl) ?_
  refine lv_iconst (v := 0) hx hb dX10_forget_6 (by decide) ?_
  refine va_put (D := D) (ci := 10) (v := .int 0) (ty := .int) (C := RX10) (T := TX10) (N := 41) hx hb hts hin10 tyX10 tyX10_ok nmX10 hown hK.1 hP hD hS 0 rfl rfl 23 (by decide) (hts _ fl_X10_150) (fun _ h9 => h9) rfl (by decide +kernel) rfl rfl (Nat.le_of_ble_eq_true rfl) dX10_forget_7 (fun H locs hP hD hS => ?_)
  have hP : va_P D vwCl (wM am cI cZ N S q (0, o.2) ro t fo k z) H := hP
  have hD : va_D _ (wM am cI cZ N S q (0, o.2) ro t fo k z) := hD
  refine lv_iload_n hx hb dX10_forget_10 rfl (lv_at hl 0 rfl) ?_
  exact mu_iret (v := (nI o.1)) hx hb hr hlocks ((0, o.2)) (by show (((nI o.1) : Int32), (0, o.2)) = mXforget o; unfold mXforget; rfl) (hP) hS dX10_forget_11

def mXunroute (ro : TR) : Int32 × TR := (nI ro.1, (0, ro.2.1, ro.2.2))
set_option maxHeartbeats 4000000 in
set_option maxRecDepth 100000 in
theorem c_X10_unroute (l : Launch) (D : va_G) (cI cZ : ClassId) (am : Nat → Nat) (N : TN) (hN16 : N_n N ≤ 16) (S : TS) (hS24 : S_n S ≤ 24) (q : TQ) (o : TO) (ho8 : o.1 ≤ 8) (ro : TR) (hr10 : ro.1 ≤ 10) (t : TT) (ht6 : t.1 ≤ 6) (fo : TF) (hf5 : fo.1 ≤ 5) (k : TC) (hk8 : k.2.1 ≤ 8) (z : TZ) : MI l D cI cZ yX10_unroute wyX10_unroute ({ frames := 0, cells := 0, slots := 0, locals := 0 } : Room) [.ref (am 0)] (wM am cI cZ N S q o ro t fo k z) (fun r u => (r, u) = mXunroute ro) (fun (u : TR) => wM am cI cZ N S q o u t fo k z) := by
  refine Met.ofW (cc := cX10_unroute) (maxL := 2) (ret := (some .int)) (by decide) rfl ?_
  intro p e s m args below meth c s₁ B hml hv
  obtain ⟨rfl, hK, hP, hD0⟩ := hv
  have hx := B.exec
  have hb := B.bytes
  have hr := B.returns
  have hts0 := atoms_spec (ws := wyX10_unroute) B.pre
  have hts : ∀ w ∈ big, w.before _ s = true := fun w h => hts0 w (List.mem_cons_of_mem _ h)
  have hown : s.vm.findClass RX10 = some m.cls := findClass_of_methodNamed B.named
  have hlocks := B.notSynchronized
  have hD := D_inW hD0
  have hS : va_S (inW (wM am cI cZ N S q o ro t fo k z)) s.heap s.heap [] := va_S.rf
  have hl := lv_entry ([.ref (am 0)]) (n := 2) (Nat.le_of_ble_eq_true rfl)
  rw [lg_entry_eq]
  generalize (lg_sl ([.ref (am 0)]) ++ List.replicate (2 - (lg_sl ([.ref (am 0)])).length) Slot.unset).toArray = ls at hl ⊢
  have hl : lv_has ls 2 [(0, .ref (am 0))] := hl
  refine lv_aload_n hx hb dX10_unroute_0 rfl (lv_at hl 0 rfl) ?_
  refine va_get (D := D) (ci := 10) (v := .int (nI ro.1)) (C := RX10) (T := TX10) (N := 41) hx hb hts hin10 hown hK.1 hP 0 rfl rfl 26 (by decide) (hts _ fl_X10_162) (fun _ h9 => h9) rfl dX10_unroute_1 ?_
  refine lv_istore_n (lv' := [(1, .int (nI ro.1)), (0, .ref (am 0))]) hx hb dX10_unroute_4 rfl hl (by decide) rfl (fun ls hl => ?_)
  refine lv_aload_n hx hb dX10_unroute_5 rfl (lv_at hl 1 rfl) ?_
  refine lv_iconst (v := 0) hx hb dX10_unroute_6 (by decide) ?_
  refine va_put (D := D) (ci := 10) (v := .int 0) (ty := .int) (C := RX10) (T := TX10) (N := 41) hx hb hts hin10 tyX10 tyX10_ok nmX10 hown hK.1 hP hD hS 0 rfl rfl 26 (by decide) (hts _ fl_X10_162) (fun _ h9 => h9) rfl (by decide +kernel) rfl rfl (Nat.le_of_ble_eq_true rfl) dX10_unroute_7 (fun H locs hP hD hS => ?_)
  have hP : va_P D vwCl (wM am cI cZ N S q o (0, ro.2.1, ro.2.2) t fo k z) H := hP
  have hD : va_D _ (wM am cI cZ N S q o (0, ro.2.1, ro.2.2) t fo k z) := hD
  refine lv_iload_n hx hb dX10_unroute_10 rfl (lv_at hl 0 rfl) ?_
  exact mu_iret (v := (nI ro.1)) hx hb hr hlocks ((0, ro.2.1, ro.2.2)) (by show (((nI ro.1) : Int32), (0, ro.2.1, ro.2.2)) = mXunroute ro; unfold mXunroute; rfl) (hP) hS dX10_unroute_11

def mXunbranch (fo : TF) : Int32 × TF := (nI fo.1, (0, fo.2))
set_option maxHeartbeats 4000000 in
set_option maxRecDepth 100000 in
theorem c_X10_unbranch (l : Launch) (D : va_G) (cI cZ : ClassId) (am : Nat → Nat) (N : TN) (hN16 : N_n N ≤ 16) (S : TS) (hS24 : S_n S ≤ 24) (q : TQ) (o : TO) (ho8 : o.1 ≤ 8) (ro : TR) (hr10 : ro.1 ≤ 10) (t : TT) (ht6 : t.1 ≤ 6) (fo : TF) (hf5 : fo.1 ≤ 5) (k : TC) (hk8 : k.2.1 ≤ 8) (z : TZ) : MI l D cI cZ yX10_unbranch wyX10_unbranch ({ frames := 0, cells := 0, slots := 0, locals := 0 } : Room) [.ref (am 0)] (wM am cI cZ N S q o ro t fo k z) (fun r u => (r, u) = mXunbranch fo) (fun (u : TF) => wM am cI cZ N S q o ro t u k z) := by
  refine Met.ofW (cc := cX10_unbranch) (maxL := 2) (ret := (some .int)) (by decide) rfl ?_
  intro p e s m args below meth c s₁ B hml hv
  obtain ⟨rfl, hK, hP, hD0⟩ := hv
  have hx := B.exec
  have hb := B.bytes
  have hr := B.returns
  have hts0 := atoms_spec (ws := wyX10_unbranch) B.pre
  have hts : ∀ w ∈ big, w.before _ s = true := fun w h => hts0 w (List.mem_cons_of_mem _ h)
  have hown : s.vm.findClass RX10 = some m.cls := findClass_of_methodNamed B.named
  have hlocks := B.notSynchronized
  have hD := D_inW hD0
  have hS : va_S (inW (wM am cI cZ N S q o ro t fo k z)) s.heap s.heap [] := va_S.rf
  have hl := lv_entry ([.ref (am 0)]) (n := 2) (Nat.le_of_ble_eq_true rfl)
  rw [lg_entry_eq]
  generalize (lg_sl ([.ref (am 0)]) ++ List.replicate (2 - (lg_sl ([.ref (am 0)])).length) Slot.unset).toArray = ls at hl ⊢
  have hl : lv_has ls 2 [(0, .ref (am 0))] := hl
  refine lv_aload_n hx hb dX10_unbranch_0 rfl (lv_at hl 0 rfl) ?_
  refine va_get (D := D) (ci := 10) (v := .int (nI fo.1)) (C := RX10) (T := TX10) (N := 41) hx hb hts hin10 hown hK.1 hP 0 rfl rfl 32 (by decide) (hts _ fl_X10_180) (fun _ h9 => h9) rfl dX10_unbranch_1 ?_
  refine lv_istore_n (lv' := [(1, .int (nI fo.1)), (0, .ref (am 0))]) hx hb dX10_unbranch_4 rfl hl (by decide) rfl (fun ls hl => ?_)
  refine lv_aload_n hx hb dX10_unbranch_5 rfl (lv_at hl 1 rfl) ?_
  refine lv_iconst (v := 0) hx hb dX10_unbranch_6 (by decide) ?_
  refine va_put (D := D) (ci := 10) (v := .int 0) (ty := .int) (C := RX10) (T := TX10) (N := 41) hx hb hts hin10 tyX10 tyX10_ok nmX10 hown hK.1 hP hD hS 0 rfl rfl 32 (by decide) (hts _ fl_X10_180) (fun _ h9 => h9) rfl (by decide +kernel) rfl rfl (Nat.le_of_ble_eq_true rfl) dX10_unbranch_7 (fun H locs hP hD hS => ?_)
  have hP : va_P D vwCl (wM am cI cZ N S q o ro t (0, fo.2) k z) H := hP
  have hD : va_D _ (wM am cI cZ N S q o ro t (0, fo.2) k z) := hD
  refine lv_iload_n hx hb dX10_unbranch_10 rfl (lv_at hl 0 rfl) ?_
  exact mu_iret (v := (nI fo.1)) hx hb hr hlocks ((0, fo.2)) (by show (((nI fo.1) : Int32), (0, fo.2)) = mXunbranch fo; unfold mXunbranch; rfl) (hP) hS dX10_unbranch_11

def mOff (S : TS) (q : TQ) (d9 : Int32) (i : Nat) : Int32 := d9 * (if S_k S i = 2 ∨ q.2.1 = 0 then 1 else 2 * q.2.1)
def mLv (S : TS) (q : TQ) (d9 : Int32) : Nat → (Nat → Int32)
  | 0 => S_f S
  | i + 1 => upd (mLv S q d9 i) i (if mLv S q d9 i i < mOff S q d9 i then 0 else mLv S q d9 i i - mOff S q d9 i)
def mXdays (S : TS) (q : TQ) (x : Int32) : Int32 × TS × TQ := if 1 ≤ x ∧ x ≤ 30 then if 400 < q.1 + x then (-3, S, q) else (q.1 + x, (S_n S, S_p S, S_k S, S_v S, mLv S q x (S_n S), S_d S, S_u S, S_y S, S_t S), (q.1 + x, q.2.1, q.2.2)) else (-3, S, q)
set_option maxHeartbeats 4000000 in
set_option maxRecDepth 100000 in
theorem c_X10_days (l : Launch) (D : va_G) (cI cZ : ClassId) (am : Nat → Nat) (N : TN) (hN16 : N_n N ≤ 16) (S : TS) (hS24 : S_n S ≤ 24) (q : TQ) (o : TO) (ho8 : o.1 ≤ 8) (ro : TR) (hr10 : ro.1 ≤ 10) (t : TT) (ht6 : t.1 ≤ 6) (fo : TF) (hf5 : fo.1 ≤ 5) (k : TC) (hk8 : k.2.1 ≤ 8) (z : TZ) (x : Int32) : MI l D cI cZ yX10_days wyX10_days ({ frames := 1, cells := 0, slots := 0, locals := 22 } : Room) [.ref (am 0), .int x] (wM am cI cZ N S q o ro t fo k z) (fun r u => (r, u) = mXdays S q x) (fun (u : TS × TQ) => wM am cI cZ N u.1 u.2 o ro t fo k z) := by
  refine Met.ofW (cc := cX10_days) (maxL := 4) (ret := (some .int)) (by decide) rfl ?_
  intro p e s m args below meth c s₁ B hml hv
  obtain ⟨rfl, hK, hP, hD0⟩ := hv
  have hx := B.exec
  have hb := B.bytes
  have hr := B.returns
  have hts0 := atoms_spec (ws := wyX10_days) B.pre
  have hts : ∀ w ∈ big, w.before _ s = true := fun w h => hts0 w (List.mem_cons_of_mem _ h)
  have hown : s.vm.findClass RX10 = some m.cls := findClass_of_methodNamed B.named
  have hlocks := B.notSynchronized
  have hD := D_inW hD0
  have hS : va_S (inW (wM am cI cZ N S q o ro t fo k z)) s.heap s.heap [] := va_S.rf
  have hl := lv_entry ([.ref (am 0), .int x]) (n := 4) (Nat.le_of_ble_eq_true rfl)
  rw [lg_entry_eq]
  generalize (lg_sl ([.ref (am 0), .int x]) ++ List.replicate (4 - (lg_sl ([.ref (am 0), .int x])).length) Slot.unset).toArray = ls at hl ⊢
  have hl : lv_has ls 4 [(0, .ref (am 0)), (1, .int x)] := hl
  refine lv_iload_n hx hb dX10_days_0 rfl (lv_at hl 1 rfl) ?_
  refine lv_iconst (v := 1) hx hb dX10_days_1 (by decide) ?_
  refine lv_bipush (v := 30) hx hb dX10_days_2 (by decide) ?_
  refine ro_S (As := [.int x, .int 1, .int 30]) (rest := []) ⟨hx, hb, hml, hown, hts⟩ (c_X10_in l D cI cZ  x 1 30) (cw_X10_90 hts rfl rfl ⟨Nat.le_of_ble_eq_true rfl, Nat.le_of_ble_eq_true rfl⟩) hK P_nil rfl hl.1 rfl (Nat.le_of_ble_eq_true rfl) dX10_days_4 ⟨Nat.zero_le _, Nat.zero_le _⟩ ?_
  refine lv_if_eq (tgt := 22) hx hb dX10_days_7 (by decide) (fun c_1 => ?_) (fun c_1 => ?_)
  · skip
    have c_1 := zb_eq0 c_1
    refine lv_bipush (v := (-3)) hx hb dX10_days_22 (by decide) ?_
    exact mu_iret (v := (-3)) hx hb hr hlocks ((S, q)) (by show (((-3) : Int32), (S, q)) = mXdays S q x; unfold mXdays; (first | rw [if_pos c_1] | rw [if_neg c_1] | skip); (try rfl)) (hP) hS dX10_days_24
  · skip
    have c_1 := zb_ne0 c_1
    refine lv_aload_n hx hb dX10_days_10 rfl (lv_at hl 0 rfl) ?_
    refine va_get (D := D) (ci := 10) (v := .int q.1) (C := RX10) (T := TX10) (N := 41) hx hb hts hin10 hown hK.1 hP 0 rfl rfl 4 (by decide) (hts _ fl_X10_112) (fun _ h9 => h9) rfl dX10_days_11 ?_
    refine lv_iload_n hx hb dX10_days_14 rfl (lv_at hl 1 rfl) ?_
    refine lv_iadd hx hb dX10_days_15 ?_
    refine lv_sipush (v := 400) hx hb dX10_days_16 (by decide) ?_
    refine lv_icmp_le (tgt := 25) hx hb dX10_days_19 (by decide) (fun c_2 => ?_) (fun c_2 => ?_)
    · skip
      have c_2 := Int32.not_lt.mpr c_2
      refine lv_aload_n hx hb dX10_days_25 rfl (lv_at hl 0 rfl) ?_
      refine lv_dup hx hb dX10_days_26 rfl ?_
      refine va_get (D := D) (ci := 10) (v := .int q.1) (C := RX10) (T := TX10) (N := 41) hx hb hts hin10 hown hK.1 hP 0 rfl rfl 4 (by decide) (hts _ fl_X10_112) (fun _ h9 => h9) rfl dX10_days_27 ?_
      refine lv_iload_n hx hb dX10_days_30 rfl (lv_at hl 1 rfl) ?_
      refine lv_iadd hx hb dX10_days_31 ?_
      refine va_put (D := D) (ci := 10) (v := .int (q.1 + x)) (ty := .int) (C := RX10) (T := TX10) (N := 41) hx hb hts hin10 tyX10 tyX10_ok nmX10 hown hK.1 hP hD hS 0 rfl rfl 4 (by decide) (hts _ fl_X10_112) (fun _ h9 => h9) rfl (by decide +kernel) rfl rfl (Nat.le_of_ble_eq_true rfl) dX10_days_32 (fun H locs hP hD hS => ?_)
      have hP : va_P D vwCl (wM am cI cZ N S ((q.1 + x), q.2.1, q.2.2) o ro t fo k z) H := hP
      have hD : va_D _ (wM am cI cZ N S ((q.1 + x), q.2.1, q.2.2) o ro t fo k z) := hD
      refine lv_iconst (v := 0) hx hb dX10_days_35 (by decide) ?_
      refine lv_istore_n (lv' := [(2, .int 0), (0, .ref (am 0)), (1, .int x)]) hx hb dX10_days_36 rfl hl (by decide) rfl (fun ls hl => ?_)
      refine w_loopH (α := Nat) (fun a9 => a9 ≤ S_n S) (fun a9 => S_n S - a9) (fun a9 => wM am cI cZ N ((S_n S), (S_p S), (S_k S), (S_v S), (mLv S q x a9), (S_d S), (S_u S), (S_y S), (S_t S)) ((q.1 + x), q.2.1, q.2.2) o ro t fo k z) (fun a9 => [(0, .ref (am 0)), (1, .int x), (2, .int (nI a9))]) 37 4 ?_ 0 (Nat.zero_le _) (show lv_has ls 4 [(0, .ref (am 0)), (1, .int x), (2, .int (nI 0))] from lv_sub hl [1, 2, 0] rfl) hP hD hS
      intro a9 ls H locs hI hl hP hD hS ih_37
      obtain ⟨i, rfl⟩ : ∃ z, z = a9 := ⟨a9, rfl⟩
      have hI : i ≤ S_n S := hI
      have hl : lv_has ls 4 [(0, .ref (am 0)), (1, .int x), (2, .int (nI i))] := hl
      have hP : va_P D vwCl (wM am cI cZ N ((S_n S), (S_p S), (S_k S), (S_v S), (mLv S q x i), (S_d S), (S_u S), (S_y S), (S_t S)) ((q.1 + x), q.2.1, q.2.2) o ro t fo k z) H := hP
      have hD : va_D _ (wM am cI cZ N ((S_n S), (S_p S), (S_k S), (S_v S), (mLv S q x i), (S_d S), (S_u S), (S_y S), (S_t S)) ((q.1 + x), q.2.1, q.2.2) o ro t fo k z) := hD
      refine lv_iload_n hx hb dX10_days_37 rfl (lv_at hl 2 rfl) ?_
      refine lv_aload_n hx hb dX10_days_38 rfl (lv_at hl 0 rfl) ?_
      refine va_get (D := D) (ci := 10) (v := .int (nI (S_n S))) (C := RX10) (T := TX10) (N := 41) hx hb hts hin10 hown hK.1 hP 0 rfl rfl 6 (by decide) (hts _ fl_X10_115) (fun _ h9 => h9) rfl dX10_days_39 ?_
      refine lv_icmp_ge (tgt := 109) hx hb dX10_days_42 (by decide) (fun c_3 => ?_) (fun c_3 => ?_)
      · skip
        have hge : S_n S ≤ i := zge (by have := hI; have := hS24; omega) (by have := hS24; omega) c_3
        refine lv_aload_n hx hb dX10_days_109 rfl (lv_at hl 0 rfl) ?_
        refine va_get (D := D) (ci := 10) (v := .int (q.1 + x)) (C := RX10) (T := TX10) (N := 41) hx hb hts hin10 hown hK.1 hP 0 rfl rfl 4 (by decide) (hts _ fl_X10_112) (fun _ h9 => h9) rfl dX10_days_110 ?_
        exact mu_iret (v := (q.1 + x)) hx hb hr hlocks ((((S_n S), (S_p S), (S_k S), (S_v S), (mLv S q x i), (S_d S), (S_u S), (S_y S), (S_t S)), ((q.1 + x), q.2.1, q.2.2))) (by show (((q.1 + x) : Int32), (((S_n S), (S_p S), (S_k S), (S_v S), (mLv S q x i), (S_d S), (S_u S), (S_y S), (S_t S)), ((q.1 + x), q.2.1, q.2.2))) = mXdays S q x; unfold mXdays; rw [show S_n S = i by omega]; (first | rw [if_pos c_1] | rw [if_neg c_1] | skip); (first | rw [if_pos c_2] | rw [if_neg c_2] | skip); (try rfl)) (hP) hS dX10_days_113
      · skip
        have hlt : i < S_n S := zlt (by have := hI; have := hS24; omega) (by have := hS24; omega) c_3
        refine lv_iload_n hx hb dX10_days_45 rfl (lv_at hl 1 rfl) ?_
        refine w_joinH (α := Int32) (D := D) (H0 := s.heap) (A := inW (wM am cI cZ N S q o ro t fo k z)) (fun a9 => a9 = (if S_k S i = 2 ∨ q.2.1 = 0 then 1 else 2 * q.2.1)) (fun a9 => wM am cI cZ N ((S_n S), (S_p S), (S_k S), (S_v S), (mLv S q x i), (S_d S), (S_u S), (S_y S), (S_t S)) ((q.1 + x), q.2.1, q.2.2) o ro t fo k z) (fun a9 => [(0, .ref (am 0)), (1, .int x), (2, .int (nI i))]) (fun a9 => [.int a9, .int x]) 73 4 (fun hJ_73 => ?_) ?_
        · skip
          refine lv_aload_n hx hb dX10_days_46 rfl (lv_at hl 0 rfl) ?_
          refine va_get (D := D) (ci := 10) (v := .ref (am 5)) (C := RX10) (T := TX10) (N := 41) hx hb hts hin10 hown hK.1 hP 0 rfl rfl 8 (by decide) (hts _ fl_X10_22) (fun _ h9 => h9) rfl dX10_days_47 ?_
          refine lv_iload_n hx hb dX10_days_50 rfl (lv_at hl 2 rfl) ?_
          refine z_iald hx hb hK.1 hP 5 0 rfl rfl i rfl (show i < 24 by have := hS24; omega) (by decide) dX10_days_51 ?_
          refine lv_iconst (v := 2) hx hb dX10_days_52 (by decide) ?_
          refine lv_icmp_eq (tgt := 63) hx hb dX10_days_53 (by decide) (fun c_4 => ?_) (fun c_4 => ?_)
          · skip
            refine lv_iconst (v := 1) hx hb dX10_days_63 (by decide) ?_
            refine lv_goto (tgt := 73) hx hb dX10_days_64 (by decide) ?_
            exact hJ_73 1 ls H locs (show 1 = (if S_k S i = 2 ∨ q.2.1 = 0 then 1 else 2 * q.2.1) from (if_pos (Or.inl c_4)).symm) (show lv_has ls 4 [(0, .ref (am 0)), (1, .int x), (2, .int (nI i))] from lv_sub hl [0, 1, 2] rfl) hP hD hS
          · skip
            refine lv_aload_n hx hb dX10_days_56 rfl (lv_at hl 0 rfl) ?_
            refine va_get (D := D) (ci := 10) (v := .int q.2.1) (C := RX10) (T := TX10) (N := 41) hx hb hts hin10 hown hK.1 hP 0 rfl rfl 5 (by decide) (hts _ fl_X10_109) (fun _ h9 => h9) rfl dX10_days_57 ?_
            refine lv_if_ne (tgt := 67) hx hb dX10_days_60 (by decide) (fun c_5 => ?_) (fun c_5 => ?_)
            · skip
              refine lv_iconst (v := 2) hx hb dX10_days_67 (by decide) ?_
              refine lv_aload_n hx hb dX10_days_68 rfl (lv_at hl 0 rfl) ?_
              refine va_get (D := D) (ci := 10) (v := .int q.2.1) (C := RX10) (T := TX10) (N := 41) hx hb hts hin10 hown hK.1 hP 0 rfl rfl 5 (by decide) (hts _ fl_X10_109) (fun _ h9 => h9) rfl dX10_days_69 ?_
              refine lv_imul hx hb dX10_days_72 ?_
              exact hJ_73 (2 * q.2.1) ls H locs (show (2 * q.2.1) = (if S_k S i = 2 ∨ q.2.1 = 0 then 1 else 2 * q.2.1) from (if_neg (fun z9 => z9.elim c_4 c_5)).symm) (show lv_has ls 4 [(0, .ref (am 0)), (1, .int x), (2, .int (nI i))] from lv_sub hl [0, 1, 2] rfl) hP hD hS
            · skip
              refine lv_iconst (v := 1) hx hb dX10_days_63 (by decide) ?_
              refine lv_goto (tgt := 73) hx hb dX10_days_64 (by decide) ?_
              exact hJ_73 1 ls H locs (show 1 = (if S_k S i = 2 ∨ q.2.1 = 0 then 1 else 2 * q.2.1) from (if_pos (Or.inr c_5)).symm) (show lv_has ls 4 [(0, .ref (am 0)), (1, .int x), (2, .int (nI i))] from lv_sub hl [0, 1, 2] rfl) hP hD hS
        · skip
          intro a9 ls H locs hI hl hP hD hS
          obtain ⟨u, rfl⟩ : ∃ z, z = a9 := ⟨a9, rfl⟩
          have hI : u = (if S_k S i = 2 ∨ q.2.1 = 0 then 1 else 2 * q.2.1) := hI
          subst hI
          have hl : lv_has ls 4 [(0, .ref (am 0)), (1, .int x), (2, .int (nI i))] := hl
          have hP : va_P D vwCl (wM am cI cZ N ((S_n S), (S_p S), (S_k S), (S_v S), (mLv S q x i), (S_d S), (S_u S), (S_y S), (S_t S)) ((q.1 + x), q.2.1, q.2.2) o ro t fo k z) H := hP
          have hD : va_D _ (wM am cI cZ N ((S_n S), (S_p S), (S_k S), (S_v S), (mLv S q x i), (S_d S), (S_u S), (S_y S), (S_t S)) ((q.1 + x), q.2.1, q.2.2) o ro t fo k z) := hD
          refine lv_imul hx hb dX10_days_73 ?_
          refine lv_istore_n (lv' := [(3, .int (mOff S q x i)), (0, .ref (am 0)), (1, .int x), (2, .int (nI i))]) hx hb dX10_days_74 rfl hl (by decide) rfl (fun ls hl => ?_)
          refine lv_aload_n hx hb dX10_days_75 rfl (lv_at hl 1 rfl) ?_
          refine va_get (D := D) (ci := 10) (v := .ref (am 7)) (C := RX10) (T := TX10) (N := 41) hx hb hts hin10 hown hK.1 hP 0 rfl rfl 10 (by decide) (hts _ fl_X10_28) (fun _ h9 => h9) rfl dX10_days_76 ?_
          refine lv_iload_n hx hb dX10_days_79 rfl (lv_at hl 3 rfl) ?_
          refine w_joinH (α := Int32) (D := D) (H0 := s.heap) (A := inW (wM am cI cZ N S q o ro t fo k z)) (fun a9 => a9 = (if (mLv S q x i) i < (mOff S q x i) then 0 else (mLv S q x i) i - (mOff S q x i))) (fun a9 => wM am cI cZ N ((S_n S), (S_p S), (S_k S), (S_v S), (mLv S q x i), (S_d S), (S_u S), (S_y S), (S_t S)) ((q.1 + x), q.2.1, q.2.2) o ro t fo k z) (fun a9 => [(0, .ref (am 0)), (1, .int x), (2, .int (nI i)), (3, .int (mOff S q x i))]) (fun a9 => [.int a9, .int (nI i), .ref (am 7)]) 102 4 (fun hJ_102 => ?_) ?_
          · skip
            refine lv_aload_n hx hb dX10_days_80 rfl (lv_at hl 1 rfl) ?_
            refine va_get (D := D) (ci := 10) (v := .ref (am 7)) (C := RX10) (T := TX10) (N := 41) hx hb hts hin10 hown hK.1 hP 0 rfl rfl 10 (by decide) (hts _ fl_X10_28) (fun _ h9 => h9) rfl dX10_days_81 ?_
            refine lv_iload_n hx hb dX10_days_84 rfl (lv_at hl 3 rfl) ?_
            refine z_iald hx hb hK.1 hP 7 0 rfl rfl i rfl (show i < 24 by have := hS24; omega) (by decide) dX10_days_85 ?_
            refine lv_iload_n hx hb dX10_days_86 rfl (lv_at hl 0 rfl) ?_
            refine lv_icmp_ge (tgt := 94) hx hb dX10_days_87 (by decide) (fun c_6 => ?_) (fun c_6 => ?_)
            · skip
              refine lv_aload_n hx hb dX10_days_94 rfl (lv_at hl 1 rfl) ?_
              refine va_get (D := D) (ci := 10) (v := .ref (am 7)) (C := RX10) (T := TX10) (N := 41) hx hb hts hin10 hown hK.1 hP 0 rfl rfl 10 (by decide) (hts _ fl_X10_28) (fun _ h9 => h9) rfl dX10_days_95 ?_
              refine lv_iload_n hx hb dX10_days_98 rfl (lv_at hl 3 rfl) ?_
              refine z_iald hx hb hK.1 hP 7 0 rfl rfl i rfl (show i < 24 by have := hS24; omega) (by decide) dX10_days_99 ?_
              refine lv_iload_n hx hb dX10_days_100 rfl (lv_at hl 0 rfl) ?_
              refine lv_isub hx hb dX10_days_101 ?_
              exact hJ_102 (((mLv S q x i) i) - (mOff S q x i)) ls H locs (show (((mLv S q x i) i) - (mOff S q x i)) = (if (mLv S q x i) i < (mOff S q x i) then 0 else (mLv S q x i) i - (mOff S q x i)) from (if_neg (Int32.not_lt.mpr c_6)).symm) (show lv_has ls 4 [(0, .ref (am 0)), (1, .int x), (2, .int (nI i)), (3, .int (mOff S q x i))] from lv_sub hl [1, 2, 3, 0] rfl) hP hD hS
            · skip
              refine lv_iconst (v := 0) hx hb dX10_days_90 (by decide) ?_
              refine lv_goto (tgt := 102) hx hb dX10_days_91 (by decide) ?_
              exact hJ_102 0 ls H locs (show 0 = (if (mLv S q x i) i < (mOff S q x i) then 0 else (mLv S q x i) i - (mOff S q x i)) from (if_pos (Int32.not_le.mp c_6)).symm) (show lv_has ls 4 [(0, .ref (am 0)), (1, .int x), (2, .int (nI i)), (3, .int (mOff S q x i))] from lv_sub hl [1, 2, 3, 0] rfl) hP hD hS
          · skip
            intro a9 ls H locs hI hl hP hD hS
            obtain ⟨u, rfl⟩ : ∃ z, z = a9 := ⟨a9, rfl⟩
            have hI : u = (if (mLv S q x i) i < (mOff S q x i) then 0 else (mLv S q x i) i - (mOff S q x i)) := hI
            subst hI
            have hl : lv_has ls 4 [(0, .ref (am 0)), (1, .int x), (2, .int (nI i)), (3, .int (mOff S q x i))] := hl
            have hP : va_P D vwCl (wM am cI cZ N ((S_n S), (S_p S), (S_k S), (S_v S), (mLv S q x i), (S_d S), (S_u S), (S_y S), (S_t S)) ((q.1 + x), q.2.1, q.2.2) o ro t fo k z) H := hP
            have hD : va_D _ (wM am cI cZ N ((S_n S), (S_p S), (S_k S), (S_v S), (mLv S q x i), (S_d S), (S_u S), (S_y S), (S_t S)) ((q.1 + x), q.2.1, q.2.2) o ro t fo k z) := hD
            refine z_iast hx hb hK.1 hP hD hS 7 0 rfl rfl i rfl (show i < 24 by have := hS24; omega) (by decide)  dX10_days_102 (fun H locs hP hD hS => ?_)
            have hP : va_P D vwCl (wM am cI cZ N ((S_n S), (S_p S), (S_k S), (S_v S), (upd (mLv S q x i) i (if (mLv S q x i) i < (mOff S q x i) then 0 else (mLv S q x i) i - (mOff S q x i))), (S_d S), (S_u S), (S_y S), (S_t S)) ((q.1 + x), q.2.1, q.2.2) o ro t fo k z) H := hP
            have hD : va_D _ (wM am cI cZ N ((S_n S), (S_p S), (S_k S), (S_v S), (upd (mLv S q x i) i (if (mLv S q x i) i < (mOff S q x i) then 0 else (mLv S q x i) i - (mOff S q x i))), (S_d S), (S_u S), (S_y S), (S_t S)) ((q.1 + x), q.2.1, q.2.2) o ro t fo k z) := hD
            refine lv_iinc (v := (nI (i + 1))) (lv' := [(2, .int (nI (i + 1))), (0, .ref (am 0)), (1, .int x), (3, .int (mOff S q x i))]) hx hb dX10_days_103 hl (k := 2) rfl (nI_add i 1) (by decide) rfl (fun ls hl => ?_)
            refine lv_goto (tgt := 37) hx hb dX10_days_106 (by decide) ?_
            exact ih_37 (i + 1) ls H locs (show (i + 1) ≤ S_n S from hlt) (show S_n S - (i + 1) < S_n S - i from by omega) (show lv_has ls 4 [(0, .ref (am 0)), (1, .int x), (2, .int (nI (i + 1)))] from lv_sub hl [1, 2, 0] rfl) hP hD hS
    · skip
      have c_2 := Int32.not_le.mp c_2
      refine lv_bipush (v := (-3)) hx hb dX10_days_22 (by decide) ?_
      exact mu_iret (v := (-3)) hx hb hr hlocks ((S, q)) (by show (((-3) : Int32), (S, q)) = mXdays S q x; unfold mXdays; (first | rw [if_pos c_1] | rw [if_neg c_1] | skip); (first | rw [if_pos c_2] | rw [if_neg c_2] | skip); (try rfl)) (hP) hS dX10_days_24
