def jPA (t : TT) (x i : Int32) : Int32 := if 0 ≤ i ∧ i < rg t.1 t.2.2.1 x then rg 36 t.2.1 (x * 6 + i) else -1
def jIx (t : TT) (zf : Nat → Nat) (tt : Nat) (x : Int32) : Int32 := fstB (fun i => decide (jPA t (nI tt) (nI i) = x)) (zf tt)
def jMt (pb : Nat → Int32) (t : TT) (zf : Nat → Nat) (tt : Nat) (x : Int32) : Bool := decide (jIx t zf tt x = -1 ∧ ¬ jJo pb (jPA t (nI tt) (nI (zf tt) - 1)) x = -1)
def jCb (t : TT) (zf : Nat → Nat) (ro : TR) (tt : Nat) : Bool := anyB (fun i => decide (1 ≤ i ∧ hasB ro.2.1 (jPA t (nI tt) (nI i)) ro.1 = true)) (zf tt)
def jWl (N : TN) (pb : Nat → Int32) (t : TT) (tt : Nat) : Nat → Int32
  | 0 => 0
  | i + 1 => if i = 0 then 0 else jWl N pb t tt i + rg (N_n N) (N_l N) (jJo pb (jPA t (nI tt) (nI i - 1)) (jPA t (nI tt) (nI i)))
theorem jWl_end {N : TN} {pb : Nat → Int32} {t : TT} {tt i z : Nat} (h1 : 1 ≤ i) (h : i ≤ z ∨ i = 1) (hge : z ≤ i) : jWl N pb t tt i = jWl N pb t tt z := by
  by_cases h9 : i = z
  · rw [h9]
  · have h8 : i = 1 ∧ z = 0 := by omega
    rw [h8.1, h8.2]; rfl
theorem anyB_le {P : Nat → Bool} {i z : Nat} (h : anyB P i = false) (hz : z ≤ i) : anyB P z = false := by
  rw [← Bool.not_eq_true] at h ⊢
  rw [anyB_iff] at h ⊢
  rintro ⟨k, h1, h2⟩
  exact h ⟨k, by omega, h2⟩
def jCx (t : TT) (zf : Nat → Nat) (tt uu : Nat) : Bool := anyB (fun i => decide (0 < jIx t zf uu (jPA t (nI tt) (nI i)) ∨ (jIx t zf uu (jPA t (nI tt) (nI i)) = 0 ∧ 0 < nI i))) (zf tt)
def jF3 (N : TN) (pb : Nat → Int32) (t : TT) (zf : Nat → Nat) (ro : TR) (tt : Nat) : Int32 := ((if hasB ro.2.1 (jPA t (nI tt) 0) ro.1 = true then 0 else 1) ||| (if jCb t zf ro tt = true then 2 else 0)) ||| (if t.2.2.2.2 < jWl N pb t tt (zf tt) then 4 else 0)
def jF4 (N : TN) (pb : Nat → Int32) (t : TT) (zf : Nat → Nat) (ro : TR) (tt : Nat) : Nat → Int32
  | 0 => jF3 N pb t zf ro tt
  | u + 1 => jF4 N pb t zf ro tt u ||| (if ¬ nI u = nI tt ∧ rg t.1 t.2.2.2.1 (nI u) = 1 ∧ jCx t zf tt u = true then 8 else 0)
def jFt (N : TN) (pb : Nat → Int32) (t : TT) (zf : Nat → Nat) (ro : TR) (tt : Nat) : Int32 := if rg t.1 t.2.2.2.1 (nI tt) = 1 then jF4 N pb t zf ro tt t.1 else 0
set_option maxHeartbeats 4000000 in
set_option maxRecDepth 100000 in
theorem c_X7_trailCount (l : Launch) (D : va_G) (cI cZ : ClassId) (a : Nat → Nat) (t : TT) (ht6 : t.1 ≤ 6) : RO l D cI cZ yX7_trailCount wyX7_trailCount ({ frames := 1, cells := 0, slots := 0, locals := 20 } : Room) [.ref (a 36)] (wTr a cI t) (nI t.1) := by
  refine Met.ofW (cc := cX7_trailCount) (maxL := 1) (ret := (some .int)) (by decide) rfl ?_
  intro p e s m args below meth c s₁ B hml hv
  obtain ⟨rfl, hK, hP⟩ := hv
  have hx := B.exec
  have hb := B.bytes
  have hr := B.returns
  have hts0 := atoms_spec (ws := wyX7_trailCount) B.pre
  have hts : ∀ w ∈ big, w.before _ s = true := fun w h => hts0 w (List.mem_cons_of_mem _ h)
  have hown : s.vm.findClass RX7 = some m.cls := findClass_of_methodNamed B.named
  have hlocks := B.notSynchronized
  have hl := lv_entry ([.ref (a 36)]) (n := 1) (Nat.le_of_ble_eq_true rfl)
  rw [lg_entry_eq]
  generalize (lg_sl ([.ref (a 36)]) ++ List.replicate (1 - (lg_sl ([.ref (a 36)])).length) Slot.unset).toArray = ls at hl ⊢
  have hl : lv_has ls 1 [(0, .ref (a 36))] := hl
  refine lv_aload_n hx hb dX7_trailCount_0 rfl (lv_at hl 0 rfl) ?_
  refine va_get (D := D) (ci := 7) (v := .ref (a 39)) (C := RX7) (T := TX7) (N := 6) hx hb hts hin7 hown hK.1 hP 0 rfl rfl 3 (by decide) (hts _ fl_X7_24) (fun _ h9 => h9) rfl dX7_trailCount_1 ?_
  refine ro_V (As := []) (rest := []) ⟨hx, hb, hml, hown, hts⟩ (c_X5_size l D cI cZ (a 39) (a 40) 6 (t.1) (t.2.2.1) ht6 (by decide)) (cw_X7_42 hts rfl rfl ⟨Nat.le_of_ble_eq_true rfl, Nat.le_of_ble_eq_true rfl⟩) hK (hP.sub [3, 4] rfl) (ci := 5) rfl rfl rfl hl.1 rfl (Nat.le_of_ble_eq_true rfl) dX7_trailCount_4 ⟨Nat.zero_le _, Nat.zero_le _⟩ ?_
  exact ro_iret hx hb hr hlocks (rfl) dX7_trailCount_7

set_option maxHeartbeats 4000000 in
set_option maxRecDepth 100000 in
theorem c_X7_sizeOf (l : Launch) (D : va_G) (cI cZ : ClassId) (a : Nat → Nat) (t : TT) (ht6 : t.1 ≤ 6) (x : Int32) : RO l D cI cZ yX7_sizeOf wyX7_sizeOf ({ frames := 1, cells := 0, slots := 0, locals := 21 } : Room) [.ref (a 36), .int x] (wTr a cI t) (rg t.1 t.2.2.1 x) := by
  refine Met.ofW (cc := cX7_sizeOf) (maxL := 2) (ret := (some .int)) (by decide) rfl ?_
  intro p e s m args below meth c s₁ B hml hv
  obtain ⟨rfl, hK, hP⟩ := hv
  have hx := B.exec
  have hb := B.bytes
  have hr := B.returns
  have hts0 := atoms_spec (ws := wyX7_sizeOf) B.pre
  have hts : ∀ w ∈ big, w.before _ s = true := fun w h => hts0 w (List.mem_cons_of_mem _ h)
  have hown : s.vm.findClass RX7 = some m.cls := findClass_of_methodNamed B.named
  have hlocks := B.notSynchronized
  have hl := lv_entry ([.ref (a 36), .int x]) (n := 2) (Nat.le_of_ble_eq_true rfl)
  rw [lg_entry_eq]
  generalize (lg_sl ([.ref (a 36), .int x]) ++ List.replicate (2 - (lg_sl ([.ref (a 36), .int x])).length) Slot.unset).toArray = ls at hl ⊢
  have hl : lv_has ls 2 [(0, .ref (a 36)), (1, .int x)] := hl
  refine lv_aload_n hx hb dX7_sizeOf_0 rfl (lv_at hl 0 rfl) ?_
  refine va_get (D := D) (ci := 7) (v := .ref (a 39)) (C := RX7) (T := TX7) (N := 6) hx hb hts hin7 hown hK.1 hP 0 rfl rfl 3 (by decide) (hts _ fl_X7_24) (fun _ h9 => h9) rfl dX7_sizeOf_1 ?_
  refine lv_iload_n hx hb dX7_sizeOf_4 rfl (lv_at hl 1 rfl) ?_
  refine ro_V (As := [.int x]) (rest := []) ⟨hx, hb, hml, hown, hts⟩ (c_X5_get l D cI cZ (a 39) (a 40) 6 (t.1) (t.2.2.1) ht6 (by decide) x) (cw_X7_46 hts rfl rfl ⟨Nat.le_of_ble_eq_true rfl, Nat.le_of_ble_eq_true rfl⟩) hK (hP.sub [3, 4] rfl) (ci := 5) rfl rfl rfl hl.1 rfl (Nat.le_of_ble_eq_true rfl) dX7_sizeOf_5 ⟨Nat.zero_le _, Nat.zero_le _⟩ ?_
  exact ro_iret hx hb hr hlocks (rfl) dX7_sizeOf_8

set_option maxHeartbeats 4000000 in
set_option maxRecDepth 100000 in
theorem c_X7_changeReach (l : Launch) (D : va_G) (cI cZ : ClassId) (a : Nat → Nat) (t : TT) (ht6 : t.1 ≤ 6) (v : Int32) : MI l D cI cZ yX7_changeReach wyX7_changeReach ({ frames := 0, cells := 0, slots := 0, locals := 0 } : Room) [.ref (a 36), .int v] (wTr a cI t) (fun r _ => r = t.2.2.2.2) (fun (_ : Unit) => wTr a cI (t.1, t.2.1, t.2.2.1, t.2.2.2.1, v)) := by
  refine Met.ofW (cc := cX7_changeReach) (maxL := 3) (ret := (some .int)) (by decide) rfl ?_
  intro p e s m args below meth c s₁ B hml hv
  obtain ⟨rfl, hK, hP, hD0⟩ := hv
  have hx := B.exec
  have hb := B.bytes
  have hr := B.returns
  have hts0 := atoms_spec (ws := wyX7_changeReach) B.pre
  have hts : ∀ w ∈ big, w.before _ s = true := fun w h => hts0 w (List.mem_cons_of_mem _ h)
  have hown : s.vm.findClass RX7 = some m.cls := findClass_of_methodNamed B.named
  have hlocks := B.notSynchronized
  have hD := D_inW hD0
  have hS : va_S (inW (wTr a cI t)) s.heap s.heap [] := va_S.rf
  have hl := lv_entry ([.ref (a 36), .int v]) (n := 3) (Nat.le_of_ble_eq_true rfl)
  rw [lg_entry_eq]
  generalize (lg_sl ([.ref (a 36), .int v]) ++ List.replicate (3 - (lg_sl ([.ref (a 36), .int v])).length) Slot.unset).toArray = ls at hl ⊢
  have hl : lv_has ls 3 [(0, .ref (a 36)), (1, .int v)] := hl
  refine lv_aload_n hx hb dX7_changeReach_0 rfl (lv_at hl 0 rfl) ?_
  refine va_get (D := D) (ci := 7) (v := .int t.2.2.2.2) (C := RX7) (T := TX7) (N := 6) hx hb hts hin7 hown hK.1 hP 0 rfl rfl 5 (by decide) (hts _ fl_X7_30) (fun _ h9 => h9) rfl dX7_changeReach_1 ?_
  refine lv_istore_n (lv' := [(2, .int t.2.2.2.2), (0, .ref (a 36)), (1, .int v)]) hx hb dX7_changeReach_4 rfl hl (by decide) rfl (fun ls hl => ?_)
  refine lv_aload_n hx hb dX7_changeReach_5 rfl (lv_at hl 1 rfl) ?_
  refine lv_iload_n hx hb dX7_changeReach_6 rfl (lv_at hl 2 rfl) ?_
  refine va_put (D := D) (ci := 7) (v := .int v) (ty := .int) (C := RX7) (T := TX7) (N := 6) hx hb hts hin7 tyX7 tyX7_ok nmX7 hown hK.1 hP hD hS 0 rfl rfl 5 (by decide) (hts _ fl_X7_30) (fun _ h9 => h9) rfl (by decide +kernel) rfl rfl (Nat.le_of_ble_eq_true rfl) dX7_changeReach_7 (fun H locs hP hD hS => ?_)
  have hP : va_P D vwCl (wTr a cI ((t.1), (t.2.1), (t.2.2.1), (t.2.2.2.1), v)) H := hP
  have hD : va_D _ (wTr a cI ((t.1), (t.2.1), (t.2.2.1), (t.2.2.2.1), v)) := hD
  refine lv_iload_n hx hb dX7_changeReach_10 rfl (lv_at hl 0 rfl) ?_
  exact mu_iret (v := t.2.2.2.2) hx hb hr hlocks (()) (rfl) (hP) hS dX7_changeReach_11

set_option maxHeartbeats 4000000 in
set_option maxRecDepth 100000 in
theorem c_X7_placeAt (l : Launch) (D : va_G) (cI cZ : ClassId) (a : Nat → Nat) (t : TT) (ht6 : t.1 ≤ 6) (x i : Int32) : RO l D cI cZ yX7_placeAt wyX7_placeAt ({ frames := 2, cells := 0, slots := 0, locals := 42 } : Room) [.ref (a 36), .int x, .int i] (wTr a cI t) (jPA t x i) := by
  refine Met.ofW (cc := cX7_placeAt) (maxL := 3) (ret := (some .int)) (by decide) rfl ?_
  intro p e s m args below meth c s₁ B hml hv
  obtain ⟨rfl, hK, hP⟩ := hv
  have hx := B.exec
  have hb := B.bytes
  have hr := B.returns
  have hts0 := atoms_spec (ws := wyX7_placeAt) B.pre
  have hts : ∀ w ∈ big, w.before _ s = true := fun w h => hts0 w (List.mem_cons_of_mem _ h)
  have hown : s.vm.findClass RX7 = some m.cls := findClass_of_methodNamed B.named
  have hlocks := B.notSynchronized
  have hl := lv_entry ([.ref (a 36), .int x, .int i]) (n := 3) (Nat.le_of_ble_eq_true rfl)
  rw [lg_entry_eq]
  generalize (lg_sl ([.ref (a 36), .int x, .int i]) ++ List.replicate (3 - (lg_sl ([.ref (a 36), .int x, .int i])).length) Slot.unset).toArray = ls at hl ⊢
  have hl : lv_has ls 3 [(0, .ref (a 36)), (1, .int x), (2, .int i)] := hl
  refine lv_iload_n hx hb dX7_placeAt_0 rfl (lv_at hl 2 rfl) ?_
  refine lv_if_lt (tgt := 29) hx hb dX7_placeAt_1 (by decide) (fun c_1 => ?_) (fun c_1 => ?_)
  · skip
    refine lv_iconst (v := (-1)) hx hb dX7_placeAt_29 (by decide) ?_
    exact ro_iret hx hb hr hlocks ((if_neg (fun z => absurd z.1 (Int32.not_le.mpr c_1))).symm) dX7_placeAt_30
  · skip
    refine lv_iload_n hx hb dX7_placeAt_4 rfl (lv_at hl 2 rfl) ?_
    refine lv_aload_n hx hb dX7_placeAt_5 rfl (lv_at hl 0 rfl) ?_
    refine lv_iload_n hx hb dX7_placeAt_6 rfl (lv_at hl 1 rfl) ?_
    refine ro_V (As := [.int x]) (rest := [.int i]) ⟨hx, hb, hml, hown, hts⟩ (c_X7_sizeOf l D cI cZ a t ht6 x) (cw_X7_60 hts rfl rfl ⟨Nat.le_of_ble_eq_true rfl, Nat.le_of_ble_eq_true rfl⟩) hK hP (ci := 7) rfl rfl rfl hl.1 rfl (Nat.le_of_ble_eq_true rfl) dX7_placeAt_7 ⟨Nat.zero_le _, Nat.zero_le _⟩ ?_
    refine lv_icmp_ge (tgt := 29) hx hb dX7_placeAt_10 (by decide) (fun c_2 => ?_) (fun c_2 => ?_)
    · skip
      refine lv_iconst (v := (-1)) hx hb dX7_placeAt_29 (by decide) ?_
      exact ro_iret hx hb hr hlocks ((if_neg (fun z => absurd z.2 (Int32.not_lt.mpr c_2))).symm) dX7_placeAt_30
    · skip
      refine lv_aload_n hx hb dX7_placeAt_13 rfl (lv_at hl 0 rfl) ?_
      refine va_get (D := D) (ci := 7) (v := .ref (a 37)) (C := RX7) (T := TX7) (N := 6) hx hb hts hin7 hown hK.1 hP 0 rfl rfl 2 (by decide) (hts _ fl_X7_20) (fun _ h9 => h9) rfl dX7_placeAt_14 ?_
      refine lv_iload_n hx hb dX7_placeAt_17 rfl (lv_at hl 1 rfl) ?_
      refine lv_bipush (v := 6) hx hb dX7_placeAt_18 (by decide) ?_
      refine lv_imul hx hb dX7_placeAt_20 ?_
      refine lv_iload_n hx hb dX7_placeAt_21 rfl (lv_at hl 2 rfl) ?_
      refine lv_iadd hx hb dX7_placeAt_22 ?_
      refine ro_V (As := [.int ((x * 6) + i)]) (rest := []) ⟨hx, hb, hml, hown, hts⟩ (c_X5_get l D cI cZ (a 37) (a 38) 36 36 (t.2.1) (by decide) (by decide) ((x * 6) + i)) (cw_X7_46 hts rfl rfl ⟨Nat.le_of_ble_eq_true rfl, Nat.le_of_ble_eq_true rfl⟩) hK (hP.sub [1, 2] rfl) (ci := 5) rfl rfl rfl hl.1 rfl (Nat.le_of_ble_eq_true rfl) dX7_placeAt_23 ⟨Nat.zero_le _, Nat.zero_le _⟩ ?_
      refine lv_goto (tgt := 30) hx hb dX7_placeAt_26 (by decide) ?_
      exact ro_iret hx hb hr hlocks ((if_pos ⟨Int32.not_lt.mp c_1, Int32.not_le.mp c_2⟩).symm) dX7_placeAt_30

set_option maxHeartbeats 4000000 in
set_option maxRecDepth 100000 in
theorem c_X7_isFalse (l : Launch) (D : va_G) (cI cZ : ClassId) (a : Nat → Nat) (t : TT) (ht6 : t.1 ≤ 6) (x : Int32) : RO l D cI cZ yX7_isFalse wyX7_isFalse ({ frames := 1, cells := 0, slots := 0, locals := 21 } : Room) [.ref (a 36), .int x] (wTr a cI t) (zb (rg t.1 t.2.2.2.1 x = 1)) := by
  refine Met.ofW (cc := cX7_isFalse) (maxL := 2) (ret := (some .boolean)) (by decide) rfl ?_
  intro p e s m args below meth c s₁ B hml hv
  obtain ⟨rfl, hK, hP⟩ := hv
  have hx := B.exec
  have hb := B.bytes
  have hr := B.returns
  have hts0 := atoms_spec (ws := wyX7_isFalse) B.pre
  have hts : ∀ w ∈ big, w.before _ s = true := fun w h => hts0 w (List.mem_cons_of_mem _ h)
  have hown : s.vm.findClass RX7 = some m.cls := findClass_of_methodNamed B.named
  have hlocks := B.notSynchronized
  have hl := lv_entry ([.ref (a 36), .int x]) (n := 2) (Nat.le_of_ble_eq_true rfl)
  rw [lg_entry_eq]
  generalize (lg_sl ([.ref (a 36), .int x]) ++ List.replicate (2 - (lg_sl ([.ref (a 36), .int x])).length) Slot.unset).toArray = ls at hl ⊢
  have hl : lv_has ls 2 [(0, .ref (a 36)), (1, .int x)] := hl
  refine lv_aload_n hx hb dX7_isFalse_0 rfl (lv_at hl 0 rfl) ?_
  refine va_get (D := D) (ci := 7) (v := .ref (a 41)) (C := RX7) (T := TX7) (N := 6) hx hb hts hin7 hown hK.1 hP 0 rfl rfl 4 (by decide) (hts _ fl_X7_27) (fun _ h9 => h9) rfl dX7_isFalse_1 ?_
  refine lv_iload_n hx hb dX7_isFalse_4 rfl (lv_at hl 1 rfl) ?_
  refine ro_V (As := [.int x]) (rest := []) ⟨hx, hb, hml, hown, hts⟩ (c_X5_get l D cI cZ (a 41) (a 42) 6 (t.1) (t.2.2.2.1) ht6 (by decide) x) (cw_X7_46 hts rfl rfl ⟨Nat.le_of_ble_eq_true rfl, Nat.le_of_ble_eq_true rfl⟩) hK (hP.sub [5, 6] rfl) (ci := 5) rfl rfl rfl hl.1 rfl (Nat.le_of_ble_eq_true rfl) dX7_isFalse_5 ⟨Nat.zero_le _, Nat.zero_le _⟩ ?_
  refine lv_iconst (v := 1) hx hb dX7_isFalse_8 (by decide) ?_
  refine lv_icmp_ne (tgt := 16) hx hb dX7_isFalse_9 (by decide) (fun c_1 => ?_) (fun c_1 => ?_)
  · skip
    refine lv_iconst (v := 0) hx hb dX7_isFalse_16 (by decide) ?_
    exact ro_zret hx hb hr hlocks (nar_zb _) ((zb_f c_1).symm) dX7_isFalse_17
  · skip
    refine lv_iconst (v := 1) hx hb dX7_isFalse_12 (by decide) ?_
    refine lv_goto (tgt := 17) hx hb dX7_isFalse_13 (by decide) ?_
    exact ro_zret hx hb hr hlocks (nar_zb _) ((zb_t c_1).symm) dX7_isFalse_17

set_option maxHeartbeats 4000000 in
set_option maxRecDepth 100000 in
theorem c_X7_indexOf (l : Launch) (D : va_G) (cI cZ : ClassId) (a : Nat → Nat) (t : TT) (ht6 : t.1 ≤ 6) (zf : Nat → Nat) (hzf : ∀ i, i < t.1 → t.2.2.1 i = nI (zf i) ∧ zf i ≤ 6) (tt : Nat) (htt : tt < t.1) (x : Int32) : RO l D cI cZ yX7_indexOf wyX7_indexOf ({ frames := 3, cells := 0, slots := 0, locals := 64 } : Room) [.ref (a 36), .int (nI tt), .int x] (wTr a cI t) (jIx t zf tt x) := by
  refine Met.ofW (cc := cX7_indexOf) (maxL := 4) (ret := (some .int)) (by decide) rfl ?_
  intro p e s m args below meth c s₁ B hml hv
  obtain ⟨rfl, hK, hP⟩ := hv
  have hx := B.exec
  have hb := B.bytes
  have hr := B.returns
  have hts0 := atoms_spec (ws := wyX7_indexOf) B.pre
  have hts : ∀ w ∈ big, w.before _ s = true := fun w h => hts0 w (List.mem_cons_of_mem _ h)
  have hown : s.vm.findClass RX7 = some m.cls := findClass_of_methodNamed B.named
  have hlocks := B.notSynchronized
  have hl := lv_entry ([.ref (a 36), .int (nI tt), .int x]) (n := 4) (Nat.le_of_ble_eq_true rfl)
  rw [lg_entry_eq]
  generalize (lg_sl ([.ref (a 36), .int (nI tt), .int x]) ++ List.replicate (4 - (lg_sl ([.ref (a 36), .int (nI tt), .int x])).length) Slot.unset).toArray = ls at hl ⊢
  have hl : lv_has ls 4 [(0, .ref (a 36)), (1, .int (nI tt)), (2, .int x)] := hl
  refine lv_iconst (v := 0) hx hb dX7_indexOf_0 (by decide) ?_
  refine lv_istore_n (lv' := [(3, .int 0), (0, .ref (a 36)), (1, .int (nI tt)), (2, .int x)]) hx hb dX7_indexOf_1 rfl hl (by decide) rfl (fun ls hl => ?_)
  refine w_loop (α := Nat) (fun a9 => a9 ≤ zf tt ∧ anyB (fun i => decide (jPA t (nI tt) (nI i) = x)) a9 = false) (fun a9 => zf tt - a9) (fun a9 => [(0, .ref (a 36)), (1, .int (nI tt)), (2, .int x), (3, .int (nI a9))]) 2 4 ?_ 0 (⟨Nat.zero_le _, rfl⟩) (show lv_has ls 4 [(0, .ref (a 36)), (1, .int (nI tt)), (2, .int x), (3, .int (nI 0))] from lv_sub hl [1, 2, 3, 0] rfl)
  intro a9 ls hI hl ih_2
  obtain ⟨i, rfl⟩ : ∃ z, z = a9 := ⟨a9, rfl⟩
  have hI : i ≤ zf tt ∧ anyB (fun i => decide (jPA t (nI tt) (nI i) = x)) i = false := hI
  have hl : lv_has ls 4 [(0, .ref (a 36)), (1, .int (nI tt)), (2, .int x), (3, .int (nI i))] := hl
  refine lv_iload_n hx hb dX7_indexOf_2 rfl (lv_at hl 3 rfl) ?_
  refine lv_aload_n hx hb dX7_indexOf_3 rfl (lv_at hl 0 rfl) ?_
  refine lv_iload_n hx hb dX7_indexOf_4 rfl (lv_at hl 1 rfl) ?_
  refine ro_V (As := [.int (nI tt)]) (rest := [.int (nI i)]) ⟨hx, hb, hml, hown, hts⟩ (c_X7_sizeOf l D cI cZ a t ht6 (nI tt)) (cw_X7_60 hts rfl rfl ⟨Nat.le_of_ble_eq_true rfl, Nat.le_of_ble_eq_true rfl⟩) hK hP (ci := 7) rfl rfl rfl hl.1 rfl (Nat.le_of_ble_eq_true rfl) dX7_indexOf_5 ⟨Nat.zero_le _, Nat.zero_le _⟩ ?_
  rw [rg_in htt (show t.1 < 2 ^ 31 by omega), (hzf tt htt).1]
  refine lv_icmp_ge (tgt := 29) hx hb dX7_indexOf_8 (by decide) (fun c_1 => ?_) (fun c_1 => ?_)
  · skip
    have hge : zf tt ≤ i := zge (by have := hI.1; have := (hzf tt htt).2; omega) (by have := (hzf tt htt).2; omega) c_1
    refine lv_iconst (v := (-1)) hx hb dX7_indexOf_29 (by decide) ?_
    exact ro_iret hx hb hr hlocks (by unfold jIx; rw [show zf tt = i by have := hI.1; omega]; exact (fstB_none i hI.2).symm) dX7_indexOf_30
  · skip
    have hlt : i < zf tt := zlt (by have := hI.1; have := (hzf tt htt).2; omega) (by have := (hzf tt htt).2; omega) c_1
    refine lv_aload_n hx hb dX7_indexOf_11 rfl (lv_at hl 0 rfl) ?_
    refine lv_iload_n hx hb dX7_indexOf_12 rfl (lv_at hl 1 rfl) ?_
    refine lv_iload_n hx hb dX7_indexOf_13 rfl (lv_at hl 3 rfl) ?_
    refine ro_V (As := [.int (nI tt), .int (nI i)]) (rest := []) ⟨hx, hb, hml, hown, hts⟩ (c_X7_placeAt l D cI cZ a t ht6 (nI tt) (nI i)) (cw_X7_63 hts rfl rfl ⟨Nat.le_of_ble_eq_true rfl, Nat.le_of_ble_eq_true rfl⟩) hK hP (ci := 7) rfl rfl rfl hl.1 rfl (Nat.le_of_ble_eq_true rfl) dX7_indexOf_14 ⟨Nat.zero_le _, Nat.zero_le _⟩ ?_
    refine lv_iload_n hx hb dX7_indexOf_17 rfl (lv_at hl 2 rfl) ?_
    refine lv_icmp_ne (tgt := 23) hx hb dX7_indexOf_18 (by decide) (fun c_2 => ?_) (fun c_2 => ?_)
    · skip
      refine lv_iinc (v := (nI (i + 1))) (lv' := [(3, .int (nI (i + 1))), (0, .ref (a 36)), (1, .int (nI tt)), (2, .int x)]) hx hb dX7_indexOf_23 hl (k := 3) rfl (nI_add i 1) (by decide) rfl (fun ls hl => ?_)
      refine lv_goto (tgt := 2) hx hb dX7_indexOf_26 (by decide) ?_
      exact ih_2 (i + 1) ls (show (i + 1) ≤ zf tt ∧ anyB (fun i => decide (jPA t (nI tt) (nI i) = x)) (i + 1) = false from ⟨hlt, by rw [anyB, hI.2, Bool.false_or, decide_eq_false_iff_not]; exact c_2⟩) (show zf tt - (i + 1) < zf tt - i from by omega) (show lv_has ls 4 [(0, .ref (a 36)), (1, .int (nI tt)), (2, .int x), (3, .int (nI (i + 1)))] from lv_sub hl [1, 2, 3, 0] rfl)
    · skip
      refine lv_iload_n hx hb dX7_indexOf_21 rfl (lv_at hl 3 rfl) ?_
      exact ro_iret hx hb hr hlocks (by unfold jIx; have h9 := fstB_at (k := i) (by have := (hzf tt htt).2; omega) hI.2 (decide_eq_true c_2) (zf tt - (i + 1)); rw [show i + 1 + (zf tt - (i + 1)) = zf tt by omega] at h9; exact h9.symm) dX7_indexOf_22

set_option maxHeartbeats 4000000 in
set_option maxRecDepth 100000 in
theorem c_X7_mayGoOnTo (l : Launch) (D : va_G) (cI cZ : ClassId) (a : Nat → Nat) (t : TT) (ht6 : t.1 ≤ 6) (zf : Nat → Nat) (hzf : ∀ i, i < t.1 → t.2.2.1 i = nI (zf i) ∧ zf i ≤ 6) (N : TN) (pb : Nat → Int32) (hN16 : N_n N ≤ 16) (tt : Nat) (htt : tt < t.1) (x : Int32) : RO l D cI cZ yX7_mayGoOnTo wyX7_mayGoOnTo ({ frames := 4, cells := 0, slots := 0, locals := 87 } : Room) [.ref (a 36), .int (nI tt), .int x] (wTr a cI t ++ wNet a cI N pb) (zb (jMt pb t zf tt x = true)) := by
  refine Met.ofW (cc := cX7_mayGoOnTo) (maxL := 4) (ret := (some .boolean)) (by decide) rfl ?_
  intro p e s m args below meth c s₁ B hml hv
  obtain ⟨rfl, hK, hP⟩ := hv
  have hx := B.exec
  have hb := B.bytes
  have hr := B.returns
  have hts0 := atoms_spec (ws := wyX7_mayGoOnTo) B.pre
  have hts : ∀ w ∈ big, w.before _ s = true := fun w h => hts0 w (List.mem_cons_of_mem _ h)
  have hown : s.vm.findClass RX7 = some m.cls := findClass_of_methodNamed B.named
  have hlocks := B.notSynchronized
  have hl := lv_entry ([.ref (a 36), .int (nI tt), .int x]) (n := 4) (Nat.le_of_ble_eq_true rfl)
  rw [lg_entry_eq]
  generalize (lg_sl ([.ref (a 36), .int (nI tt), .int x]) ++ List.replicate (4 - (lg_sl ([.ref (a 36), .int (nI tt), .int x])).length) Slot.unset).toArray = ls at hl ⊢
  have hl : lv_has ls 4 [(0, .ref (a 36)), (1, .int (nI tt)), (2, .int x)] := hl
  refine lv_aload_n hx hb dX7_mayGoOnTo_0 rfl (lv_at hl 0 rfl) ?_
  refine lv_iload_n hx hb dX7_mayGoOnTo_1 rfl (lv_at hl 1 rfl) ?_
  refine lv_aload_n hx hb dX7_mayGoOnTo_2 rfl (lv_at hl 0 rfl) ?_
  refine lv_iload_n hx hb dX7_mayGoOnTo_3 rfl (lv_at hl 1 rfl) ?_
  refine ro_V (As := [.int (nI tt)]) (rest := [.int (nI tt), .ref (a 36)]) ⟨hx, hb, hml, hown, hts⟩ (c_X7_sizeOf l D cI cZ a t ht6 (nI tt)) (cw_X7_60 hts rfl rfl ⟨Nat.le_of_ble_eq_true rfl, Nat.le_of_ble_eq_true rfl⟩) hK (hP.sub [0, 1, 2, 3, 4, 5, 6] rfl) (ci := 7) rfl rfl rfl hl.1 rfl (Nat.le_of_ble_eq_true rfl) dX7_mayGoOnTo_4 ⟨Nat.zero_le _, Nat.zero_le _⟩ ?_
  rw [rg_in htt (show t.1 < 2 ^ 31 by omega), (hzf tt htt).1]
  refine lv_iconst (v := 1) hx hb dX7_mayGoOnTo_7 (by decide) ?_
  refine lv_isub hx hb dX7_mayGoOnTo_8 ?_
  refine ro_V (As := [.int (nI tt), .int ((nI (zf tt)) - 1)]) (rest := []) ⟨hx, hb, hml, hown, hts⟩ (c_X7_placeAt l D cI cZ a t ht6 (nI tt) ((nI (zf tt)) - 1)) (cw_X7_63 hts rfl rfl ⟨Nat.le_of_ble_eq_true rfl, Nat.le_of_ble_eq_true rfl⟩) hK (hP.sub [0, 1, 2, 3, 4, 5, 6] rfl) (ci := 7) rfl rfl rfl hl.1 rfl (Nat.le_of_ble_eq_true rfl) dX7_mayGoOnTo_9 ⟨Nat.zero_le _, Nat.zero_le _⟩ ?_
  refine lv_istore_n (lv' := [(3, .int (jPA t (nI tt) ((nI (zf tt)) - 1))), (0, .ref (a 36)), (1, .int (nI tt)), (2, .int x)]) hx hb dX7_mayGoOnTo_12 rfl hl (by decide) rfl (fun ls hl => ?_)
  refine lv_aload_n hx hb dX7_mayGoOnTo_13 rfl (lv_at hl 1 rfl) ?_
  refine lv_iload_n hx hb dX7_mayGoOnTo_14 rfl (lv_at hl 2 rfl) ?_
  refine lv_iload_n hx hb dX7_mayGoOnTo_15 rfl (lv_at hl 3 rfl) ?_
  refine ro_V (As := [.int (nI tt), .int x]) (rest := []) ⟨hx, hb, hml, hown, hts⟩ (c_X7_indexOf l D cI cZ a t ht6 zf hzf  tt htt x) (cw_X7_66 hts rfl rfl ⟨Nat.le_of_ble_eq_true rfl, Nat.le_of_ble_eq_true rfl⟩) hK (hP.sub [0, 1, 2, 3, 4, 5, 6] rfl) (ci := 7) rfl rfl rfl hl.1 rfl (Nat.le_of_ble_eq_true rfl) dX7_mayGoOnTo_16 ⟨Nat.zero_le _, Nat.zero_le _⟩ ?_
  refine lv_iconst (v := (-1)) hx hb dX7_mayGoOnTo_19 (by decide) ?_
  refine lv_icmp_ne (tgt := 40) hx hb dX7_mayGoOnTo_20 (by decide) (fun c_1 => ?_) (fun c_1 => ?_)
  · skip
    refine lv_iconst (v := 0) hx hb dX7_mayGoOnTo_40 (by decide) ?_
    exact ro_zret hx hb hr hlocks (nar_zb _) (by unfold jMt; simp only [decide_eq_true_eq]; first | exact (zb_t (by simp [c_1])).symm | exact (zb_f (by simp [c_1])).symm) dX7_mayGoOnTo_41
  · skip
    refine lv_aload_n hx hb dX7_mayGoOnTo_23 rfl (lv_at hl 1 rfl) ?_
    refine va_get (D := D) (ci := 7) (v := .ref (a 1)) (C := RX7) (T := TX7) (N := 6) hx hb hts hin7 hown hK.1 hP 0 rfl rfl 0 (by decide) (hts _ fl_X7_34) (fun _ h9 => h9) rfl dX7_mayGoOnTo_24 ?_
    refine lv_iload_n hx hb dX7_mayGoOnTo_27 rfl (lv_at hl 0 rfl) ?_
    refine lv_iload_n hx hb dX7_mayGoOnTo_28 rfl (lv_at hl 3 rfl) ?_
    refine ro_V (As := [.int (jPA t (nI tt) ((nI (zf tt)) - 1)), .int x]) (rest := []) ⟨hx, hb, hml, hown, hts⟩ (c_X2_joining l D cI cZ a N pb hN16 (jPA t (nI tt) ((nI (zf tt)) - 1)) x) (cw_X7_69 hts rfl rfl ⟨Nat.le_of_ble_eq_true rfl, Nat.le_of_ble_eq_true rfl⟩) hK (hP.sub [7, 8, 9, 10, 11, 12, 13, 14, 15] rfl) (ci := 2) rfl rfl rfl hl.1 rfl (Nat.le_of_ble_eq_true rfl) dX7_mayGoOnTo_29 ⟨Nat.zero_le _, Nat.zero_le _⟩ ?_
    refine lv_iconst (v := (-1)) hx hb dX7_mayGoOnTo_32 (by decide) ?_
    refine lv_icmp_eq (tgt := 40) hx hb dX7_mayGoOnTo_33 (by decide) (fun c_2 => ?_) (fun c_2 => ?_)
    · skip
      refine lv_iconst (v := 0) hx hb dX7_mayGoOnTo_40 (by decide) ?_
      exact ro_zret hx hb hr hlocks (nar_zb _) (by unfold jMt; simp only [decide_eq_true_eq]; first | exact (zb_t (by simp [c_1, c_2])).symm | exact (zb_f (by simp [c_1, c_2])).symm) dX7_mayGoOnTo_41
    · skip
      refine lv_iconst (v := 1) hx hb dX7_mayGoOnTo_36 (by decide) ?_
      refine lv_goto (tgt := 41) hx hb dX7_mayGoOnTo_37 (by decide) ?_
      exact ro_zret hx hb hr hlocks (nar_zb _) (by unfold jMt; simp only [decide_eq_true_eq]; first | exact (zb_t (by simp [c_1, c_2])).symm | exact (zb_f (by simp [c_1, c_2])).symm) dX7_mayGoOnTo_41

set_option maxHeartbeats 4000000 in
set_option maxRecDepth 100000 in
theorem c_X7_comesBackToRoute (l : Launch) (D : va_G) (cI cZ : ClassId) (a : Nat → Nat) (t : TT) (ht6 : t.1 ≤ 6) (zf : Nat → Nat) (hzf : ∀ i, i < t.1 → t.2.2.1 i = nI (zf i) ∧ zf i ≤ 6) (ro : TR) (hr10 : ro.1 ≤ 10) (tt : Nat) (htt : tt < t.1) : RO l D cI cZ yX7_comesBackToRoute wyX7_comesBackToRoute ({ frames := 3, cells := 0, slots := 0, locals := 64 } : Room) [.ref (a 36), .int (nI tt)] (wTr a cI t ++ wRt a cI ro) (zb (jCb t zf ro tt = true)) := by
  refine Met.ofW (cc := cX7_comesBackToRoute) (maxL := 3) (ret := (some .boolean)) (by decide) rfl ?_
  intro p e s m args below meth c s₁ B hml hv
  obtain ⟨rfl, hK, hP⟩ := hv
  have hx := B.exec
  have hb := B.bytes
  have hr := B.returns
  have hts0 := atoms_spec (ws := wyX7_comesBackToRoute) B.pre
  have hts : ∀ w ∈ big, w.before _ s = true := fun w h => hts0 w (List.mem_cons_of_mem _ h)
  have hown : s.vm.findClass RX7 = some m.cls := findClass_of_methodNamed B.named
  have hlocks := B.notSynchronized
  have hl := lv_entry ([.ref (a 36), .int (nI tt)]) (n := 3) (Nat.le_of_ble_eq_true rfl)
  rw [lg_entry_eq]
  generalize (lg_sl ([.ref (a 36), .int (nI tt)]) ++ List.replicate (3 - (lg_sl ([.ref (a 36), .int (nI tt)])).length) Slot.unset).toArray = ls at hl ⊢
  have hl : lv_has ls 3 [(0, .ref (a 36)), (1, .int (nI tt))] := hl
  refine lv_iconst (v := 1) hx hb dX7_comesBackToRoute_0 (by decide) ?_
  refine lv_istore_n (lv' := [(2, .int 1), (0, .ref (a 36)), (1, .int (nI tt))]) hx hb dX7_comesBackToRoute_1 rfl hl (by decide) rfl (fun ls hl => ?_)
  refine w_loop (α := Nat) (fun a9 => 1 ≤ a9 ∧ (a9 ≤ zf tt ∨ a9 = 1) ∧ anyB (fun i => decide (1 ≤ i ∧ hasB ro.2.1 (jPA t (nI tt) (nI i)) ro.1 = true)) a9 = false) (fun a9 => zf tt + 1 - a9) (fun a9 => [(0, .ref (a 36)), (1, .int (nI tt)), (2, .int (nI a9))]) 2 3 ?_ 1 (⟨by omega, Or.inr rfl, by simp [anyB]⟩) (show lv_has ls 3 [(0, .ref (a 36)), (1, .int (nI tt)), (2, .int (nI 1))] from lv_sub hl [1, 2, 0] rfl)
  intro a9 ls hI hl ih_2
  obtain ⟨i, rfl⟩ : ∃ z, z = a9 := ⟨a9, rfl⟩
  have hI : 1 ≤ i ∧ (i ≤ zf tt ∨ i = 1) ∧ anyB (fun i => decide (1 ≤ i ∧ hasB ro.2.1 (jPA t (nI tt) (nI i)) ro.1 = true)) i = false := hI
  have hl : lv_has ls 3 [(0, .ref (a 36)), (1, .int (nI tt)), (2, .int (nI i))] := hl
  refine lv_iload_n hx hb dX7_comesBackToRoute_2 rfl (lv_at hl 2 rfl) ?_
  refine lv_aload_n hx hb dX7_comesBackToRoute_3 rfl (lv_at hl 0 rfl) ?_
  refine lv_iload_n hx hb dX7_comesBackToRoute_4 rfl (lv_at hl 1 rfl) ?_
  refine ro_V (As := [.int (nI tt)]) (rest := [.int (nI i)]) ⟨hx, hb, hml, hown, hts⟩ (c_X7_sizeOf l D cI cZ a t ht6 (nI tt)) (cw_X7_60 hts rfl rfl ⟨Nat.le_of_ble_eq_true rfl, Nat.le_of_ble_eq_true rfl⟩) hK (hP.sub [0, 1, 2, 3, 4, 5, 6] rfl) (ci := 7) rfl rfl rfl hl.1 rfl (Nat.le_of_ble_eq_true rfl) dX7_comesBackToRoute_5 ⟨Nat.zero_le _, Nat.zero_le _⟩ ?_
  rw [rg_in htt (show t.1 < 2 ^ 31 by omega), (hzf tt htt).1]
  refine lv_icmp_ge (tgt := 35) hx hb dX7_comesBackToRoute_8 (by decide) (fun c_1 => ?_) (fun c_1 => ?_)
  · skip
    have hge : zf tt ≤ i := zge (by have := hI.2.1; have := (hzf tt htt).2; omega) (by have := (hzf tt htt).2; omega) c_1
    refine lv_iconst (v := 0) hx hb dX7_comesBackToRoute_35 (by decide) ?_
    exact ro_zret hx hb hr hlocks (nar_zb _) ((zb_f (by unfold jCb; rw [anyB_le hI.2.2 hge]; decide)).symm) dX7_comesBackToRoute_36
  · skip
    have hlt : i < zf tt := zlt (by have := hI.2.1; have := (hzf tt htt).2; omega) (by have := (hzf tt htt).2; omega) c_1
    refine lv_aload_n hx hb dX7_comesBackToRoute_11 rfl (lv_at hl 0 rfl) ?_
    refine va_get (D := D) (ci := 7) (v := .ref (a 33)) (C := RX7) (T := TX7) (N := 6) hx hb hts hin7 hown hK.1 hP 0 rfl rfl 1 (by decide) (hts _ fl_X7_38) (fun _ h9 => h9) rfl dX7_comesBackToRoute_12 ?_
    refine lv_aload_n hx hb dX7_comesBackToRoute_15 rfl (lv_at hl 0 rfl) ?_
    refine lv_iload_n hx hb dX7_comesBackToRoute_16 rfl (lv_at hl 1 rfl) ?_
    refine lv_iload_n hx hb dX7_comesBackToRoute_17 rfl (lv_at hl 2 rfl) ?_
    refine ro_V (As := [.int (nI tt), .int (nI i)]) (rest := [.ref (a 33)]) ⟨hx, hb, hml, hown, hts⟩ (c_X7_placeAt l D cI cZ a t ht6 (nI tt) (nI i)) (cw_X7_63 hts rfl rfl ⟨Nat.le_of_ble_eq_true rfl, Nat.le_of_ble_eq_true rfl⟩) hK (hP.sub [0, 1, 2, 3, 4, 5, 6] rfl) (ci := 7) rfl rfl rfl hl.1 rfl (Nat.le_of_ble_eq_true rfl) dX7_comesBackToRoute_18 ⟨Nat.zero_le _, Nat.zero_le _⟩ ?_
    refine ro_V (As := [.int (jPA t (nI tt) (nI i))]) (rest := []) ⟨hx, hb, hml, hown, hts⟩ (c_X4_passes l D cI cZ a ro hr10 (jPA t (nI tt) (nI i))) (cw_X7_82 hts rfl rfl ⟨Nat.le_of_ble_eq_true rfl, Nat.le_of_ble_eq_true rfl⟩) hK (hP.sub [7, 8, 9] rfl) (ci := 4) rfl rfl rfl hl.1 rfl (Nat.le_of_ble_eq_true rfl) dX7_comesBackToRoute_21 ⟨Nat.zero_le _, Nat.zero_le _⟩ ?_
    refine lv_if_eq (tgt := 29) hx hb dX7_comesBackToRoute_24 (by decide) (fun c_2 => ?_) (fun c_2 => ?_)
    · skip
      have c_2 := zb_eq0 c_2
      refine lv_iinc (v := (nI (i + 1))) (lv' := [(2, .int (nI (i + 1))), (0, .ref (a 36)), (1, .int (nI tt))]) hx hb dX7_comesBackToRoute_29 hl (k := 2) rfl (nI_add i 1) (by decide) rfl (fun ls hl => ?_)
      refine lv_goto (tgt := 2) hx hb dX7_comesBackToRoute_32 (by decide) ?_
      exact ih_2 (i + 1) ls (show 1 ≤ (i + 1) ∧ ((i + 1) ≤ zf tt ∨ (i + 1) = 1) ∧ anyB (fun i => decide (1 ≤ i ∧ hasB ro.2.1 (jPA t (nI tt) (nI i)) ro.1 = true)) (i + 1) = false from ⟨by omega, Or.inl hlt, by rw [anyB, hI.2.2, Bool.false_or, decide_eq_false_iff_not]; exact fun z => c_2 z.2⟩) (show zf tt + 1 - (i + 1) < zf tt + 1 - i from by omega) (show lv_has ls 3 [(0, .ref (a 36)), (1, .int (nI tt)), (2, .int (nI (i + 1)))] from lv_sub hl [1, 2, 0] rfl)
    · skip
      have c_2 := zb_ne0 c_2
      refine lv_iconst (v := 1) hx hb dX7_comesBackToRoute_27 (by decide) ?_
      exact ro_zret hx hb hr hlocks (nar_zb _) ((zb_t ((anyB_iff _).mpr ⟨i, hlt, decide_eq_true ⟨hI.1, c_2⟩⟩)).symm) dX7_comesBackToRoute_28

set_option maxHeartbeats 4000000 in
set_option maxRecDepth 100000 in
theorem c_X7_wholeLength (l : Launch) (D : va_G) (cI cZ : ClassId) (a : Nat → Nat) (t : TT) (ht6 : t.1 ≤ 6) (zf : Nat → Nat) (hzf : ∀ i, i < t.1 → t.2.2.1 i = nI (zf i) ∧ zf i ≤ 6) (N : TN) (pb : Nat → Int32) (hN16 : N_n N ≤ 16) (tt : Nat) (htt : tt < t.1) : RO l D cI cZ yX7_wholeLength wyX7_wholeLength ({ frames := 4, cells := 0, slots := 0, locals := 86 } : Room) [.ref (a 36), .int (nI tt)] (wTr a cI t ++ wNet a cI N pb) (jWl N pb t tt (zf tt)) := by
  refine Met.ofW (cc := cX7_wholeLength) (maxL := 4) (ret := (some .int)) (by decide) rfl ?_
  intro p e s m args below meth c s₁ B hml hv
  obtain ⟨rfl, hK, hP⟩ := hv
  have hx := B.exec
  have hb := B.bytes
  have hr := B.returns
  have hts0 := atoms_spec (ws := wyX7_wholeLength) B.pre
  have hts : ∀ w ∈ big, w.before _ s = true := fun w h => hts0 w (List.mem_cons_of_mem _ h)
  have hown : s.vm.findClass RX7 = some m.cls := findClass_of_methodNamed B.named
  have hlocks := B.notSynchronized
  have hl := lv_entry ([.ref (a 36), .int (nI tt)]) (n := 4) (Nat.le_of_ble_eq_true rfl)
  rw [lg_entry_eq]
  generalize (lg_sl ([.ref (a 36), .int (nI tt)]) ++ List.replicate (4 - (lg_sl ([.ref (a 36), .int (nI tt)])).length) Slot.unset).toArray = ls at hl ⊢
  have hl : lv_has ls 4 [(0, .ref (a 36)), (1, .int (nI tt))] := hl
  refine lv_iconst (v := 0) hx hb dX7_wholeLength_0 (by decide) ?_
  refine lv_istore_n (lv' := [(2, .int 0), (0, .ref (a 36)), (1, .int (nI tt))]) hx hb dX7_wholeLength_1 rfl hl (by decide) rfl (fun ls hl => ?_)
  refine lv_iconst (v := 1) hx hb dX7_wholeLength_2 (by decide) ?_
  refine lv_istore_n (lv' := [(3, .int 1), (2, .int 0), (0, .ref (a 36)), (1, .int (nI tt))]) hx hb dX7_wholeLength_3 rfl hl (by decide) rfl (fun ls hl => ?_)
  refine w_loop (α := Nat) (fun a9 => 1 ≤ a9 ∧ (a9 ≤ zf tt ∨ a9 = 1)) (fun a9 => zf tt + 1 - a9) (fun a9 => [(0, .ref (a 36)), (1, .int (nI tt)), (2, .int (jWl N pb t tt a9)), (3, .int (nI a9))]) 4 4 ?_ 1 (⟨by omega, Or.inr rfl⟩) (show lv_has ls 4 [(0, .ref (a 36)), (1, .int (nI tt)), (2, .int (jWl N pb t tt 1)), (3, .int (nI 1))] from lv_sub hl [2, 3, 1, 0] rfl)
  intro a9 ls hI hl ih_4
  obtain ⟨i, rfl⟩ : ∃ z, z = a9 := ⟨a9, rfl⟩
  have hI : 1 ≤ i ∧ (i ≤ zf tt ∨ i = 1) := hI
  have hl : lv_has ls 4 [(0, .ref (a 36)), (1, .int (nI tt)), (2, .int (jWl N pb t tt i)), (3, .int (nI i))] := hl
  refine lv_iload_n hx hb dX7_wholeLength_4 rfl (lv_at hl 3 rfl) ?_
  refine lv_aload_n hx hb dX7_wholeLength_5 rfl (lv_at hl 0 rfl) ?_
  refine lv_iload_n hx hb dX7_wholeLength_6 rfl (lv_at hl 1 rfl) ?_
  refine ro_V (As := [.int (nI tt)]) (rest := [.int (nI i)]) ⟨hx, hb, hml, hown, hts⟩ (c_X7_sizeOf l D cI cZ a t ht6 (nI tt)) (cw_X7_60 hts rfl rfl ⟨Nat.le_of_ble_eq_true rfl, Nat.le_of_ble_eq_true rfl⟩) hK (hP.sub [0, 1, 2, 3, 4, 5, 6] rfl) (ci := 7) rfl rfl rfl hl.1 rfl (Nat.le_of_ble_eq_true rfl) dX7_wholeLength_7 ⟨Nat.zero_le _, Nat.zero_le _⟩ ?_
  rw [rg_in htt (show t.1 < 2 ^ 31 by omega), (hzf tt htt).1]
  refine lv_icmp_ge (tgt := 50) hx hb dX7_wholeLength_10 (by decide) (fun c_1 => ?_) (fun c_1 => ?_)
  · skip
    have hge : zf tt ≤ i := zge (by have := (hzf tt htt).2; omega) (by have := (hzf tt htt).2; omega) c_1
    refine lv_iload_n hx hb dX7_wholeLength_50 rfl (lv_at hl 2 rfl) ?_
    exact ro_iret hx hb hr hlocks (jWl_end hI.1 hI.2 hge) dX7_wholeLength_51
  · skip
    have hlt : i < zf tt := zlt (by have := (hzf tt htt).2; omega) (by have := (hzf tt htt).2; omega) c_1
    refine lv_iload_n hx hb dX7_wholeLength_13 rfl (lv_at hl 2 rfl) ?_
    refine lv_aload_n hx hb dX7_wholeLength_14 rfl (lv_at hl 0 rfl) ?_
    refine va_get (D := D) (ci := 7) (v := .ref (a 1)) (C := RX7) (T := TX7) (N := 6) hx hb hts hin7 hown hK.1 hP 0 rfl rfl 0 (by decide) (hts _ fl_X7_34) (fun _ h9 => h9) rfl dX7_wholeLength_15 ?_
    refine lv_aload_n hx hb dX7_wholeLength_18 rfl (lv_at hl 0 rfl) ?_
    refine va_get (D := D) (ci := 7) (v := .ref (a 1)) (C := RX7) (T := TX7) (N := 6) hx hb hts hin7 hown hK.1 hP 0 rfl rfl 0 (by decide) (hts _ fl_X7_34) (fun _ h9 => h9) rfl dX7_wholeLength_19 ?_
    refine lv_aload_n hx hb dX7_wholeLength_22 rfl (lv_at hl 0 rfl) ?_
    refine lv_iload_n hx hb dX7_wholeLength_23 rfl (lv_at hl 1 rfl) ?_
    refine lv_iload_n hx hb dX7_wholeLength_24 rfl (lv_at hl 3 rfl) ?_
    refine lv_iconst (v := 1) hx hb dX7_wholeLength_25 (by decide) ?_
    refine lv_isub hx hb dX7_wholeLength_26 ?_
    refine ro_V (As := [.int (nI tt), .int ((nI i) - 1)]) (rest := [.ref (a 1), .ref (a 1), .int (jWl N pb t tt i)]) ⟨hx, hb, hml, hown, hts⟩ (c_X7_placeAt l D cI cZ a t ht6 (nI tt) ((nI i) - 1)) (cw_X7_63 hts rfl rfl ⟨Nat.le_of_ble_eq_true rfl, Nat.le_of_ble_eq_true rfl⟩) hK (hP.sub [0, 1, 2, 3, 4, 5, 6] rfl) (ci := 7) rfl rfl rfl hl.1 rfl (Nat.le_of_ble_eq_true rfl) dX7_wholeLength_27 ⟨Nat.zero_le _, Nat.zero_le _⟩ ?_
    refine lv_aload_n hx hb dX7_wholeLength_30 rfl (lv_at hl 0 rfl) ?_
    refine lv_iload_n hx hb dX7_wholeLength_31 rfl (lv_at hl 1 rfl) ?_
    refine lv_iload_n hx hb dX7_wholeLength_32 rfl (lv_at hl 3 rfl) ?_
    refine ro_V (As := [.int (nI tt), .int (nI i)]) (rest := [.int (jPA t (nI tt) ((nI i) - 1)), .ref (a 1), .ref (a 1), .int (jWl N pb t tt i)]) ⟨hx, hb, hml, hown, hts⟩ (c_X7_placeAt l D cI cZ a t ht6 (nI tt) (nI i)) (cw_X7_63 hts rfl rfl ⟨Nat.le_of_ble_eq_true rfl, Nat.le_of_ble_eq_true rfl⟩) hK (hP.sub [0, 1, 2, 3, 4, 5, 6] rfl) (ci := 7) rfl rfl rfl hl.1 rfl (Nat.le_of_ble_eq_true rfl) dX7_wholeLength_33 ⟨Nat.zero_le _, Nat.zero_le _⟩ ?_
    refine ro_V (As := [.int (jPA t (nI tt) ((nI i) - 1)), .int (jPA t (nI tt) (nI i))]) (rest := [.ref (a 1), .int (jWl N pb t tt i)]) ⟨hx, hb, hml, hown, hts⟩ (c_X2_joining l D cI cZ a N pb hN16 (jPA t (nI tt) ((nI i) - 1)) (jPA t (nI tt) (nI i))) (cw_X7_69 hts rfl rfl ⟨Nat.le_of_ble_eq_true rfl, Nat.le_of_ble_eq_true rfl⟩) hK (hP.sub [7, 8, 9, 10, 11, 12, 13, 14, 15] rfl) (ci := 2) rfl rfl rfl hl.1 rfl (Nat.le_of_ble_eq_true rfl) dX7_wholeLength_36 ⟨Nat.zero_le _, Nat.zero_le _⟩ ?_
    refine ro_V (As := [.int (jJo pb (jPA t (nI tt) ((nI i) - 1)) (jPA t (nI tt) (nI i)))]) (rest := [.int (jWl N pb t tt i)]) ⟨hx, hb, hml, hown, hts⟩ (c_X2_lengthOf l D cI cZ a N pb hN16 (jJo pb (jPA t (nI tt) ((nI i) - 1)) (jPA t (nI tt) (nI i)))) (cw_X7_97 hts rfl rfl ⟨Nat.le_of_ble_eq_true rfl, Nat.le_of_ble_eq_true rfl⟩) hK (hP.sub [7, 8, 9, 10, 11, 12, 13, 14, 15] rfl) (ci := 2) rfl rfl rfl hl.1 rfl (Nat.le_of_ble_eq_true rfl) dX7_wholeLength_39 ⟨Nat.zero_le _, Nat.zero_le _⟩ ?_
    refine lv_iadd hx hb dX7_wholeLength_42 ?_
    refine lv_istore_n (lv' := [(2, .int ((jWl N pb t tt i) + (rg (N_n N) (N_l N) (jJo pb (jPA t (nI tt) ((nI i) - 1)) (jPA t (nI tt) (nI i)))))), (0, .ref (a 36)), (1, .int (nI tt)), (3, .int (nI i))]) hx hb dX7_wholeLength_43 rfl hl (by decide) rfl (fun ls hl => ?_)
    have hl : lv_has ls 4 [(2, .int (jWl N pb t tt (i + 1))), (0, .ref (a 36)), (1, .int (nI tt)), (3, .int (nI i))] := by rw [show jWl N pb t tt (i + 1) = ((jWl N pb t tt i) + (rg (N_n N) (N_l N) (jJo pb (jPA t (nI tt) ((nI i) - 1)) (jPA t (nI tt) (nI i))))) from by rw [jWl, if_neg (by omega)]]; exact hl
    refine lv_iinc (v := (nI (i + 1))) (lv' := [(3, .int (nI (i + 1))), (2, .int (jWl N pb t tt (i + 1))), (0, .ref (a 36)), (1, .int (nI tt))]) hx hb dX7_wholeLength_44 hl (k := 3) rfl (nI_add i 1) (by decide) rfl (fun ls hl => ?_)
    refine lv_goto (tgt := 4) hx hb dX7_wholeLength_47 (by decide) ?_
    exact ih_4 (i + 1) ls (show 1 ≤ (i + 1) ∧ ((i + 1) ≤ zf tt ∨ (i + 1) = 1) from ⟨by omega, Or.inl hlt⟩) (show zf tt + 1 - (i + 1) < zf tt + 1 - i from by omega) (show lv_has ls 4 [(0, .ref (a 36)), (1, .int (nI tt)), (2, .int (jWl N pb t tt (i + 1))), (3, .int (nI (i + 1)))] from lv_sub hl [2, 3, 1, 0] rfl)

set_option maxHeartbeats 4000000 in
set_option maxRecDepth 100000 in
theorem c_X7_crosses (l : Launch) (D : va_G) (cI cZ : ClassId) (a : Nat → Nat) (t : TT) (ht6 : t.1 ≤ 6) (zf : Nat → Nat) (hzf : ∀ i, i < t.1 → t.2.2.1 i = nI (zf i) ∧ zf i ≤ 6) (tt : Nat) (htt : tt < t.1) (uu : Nat) (huu : uu < t.1) : RO l D cI cZ yX7_crosses wyX7_crosses ({ frames := 4, cells := 0, slots := 0, locals := 87 } : Room) [.ref (a 36), .int (nI tt), .int (nI uu)] (wTr a cI t) (zb (jCx t zf tt uu = true)) := by
  refine Met.ofW (cc := cX7_crosses) (maxL := 5) (ret := (some .boolean)) (by decide) rfl ?_
  intro p e s m args below meth c s₁ B hml hv
  obtain ⟨rfl, hK, hP⟩ := hv
  have hx := B.exec
  have hb := B.bytes
  have hr := B.returns
  have hts0 := atoms_spec (ws := wyX7_crosses) B.pre
  have hts : ∀ w ∈ big, w.before _ s = true := fun w h => hts0 w (List.mem_cons_of_mem _ h)
  have hown : s.vm.findClass RX7 = some m.cls := findClass_of_methodNamed B.named
  have hlocks := B.notSynchronized
  have hl := lv_entry ([.ref (a 36), .int (nI tt), .int (nI uu)]) (n := 5) (Nat.le_of_ble_eq_true rfl)
  rw [lg_entry_eq]
  generalize (lg_sl ([.ref (a 36), .int (nI tt), .int (nI uu)]) ++ List.replicate (5 - (lg_sl ([.ref (a 36), .int (nI tt), .int (nI uu)])).length) Slot.unset).toArray = ls at hl ⊢
  have hl : lv_has ls 5 [(0, .ref (a 36)), (1, .int (nI tt)), (2, .int (nI uu))] := hl
  refine lv_iconst (v := 0) hx hb dX7_crosses_0 (by decide) ?_
  refine lv_istore_n (lv' := [(3, .int 0), (0, .ref (a 36)), (1, .int (nI tt)), (2, .int (nI uu))]) hx hb dX7_crosses_1 rfl hl (by decide) rfl (fun ls hl => ?_)
  refine w_loop (α := Nat) (fun a9 => a9 ≤ zf tt ∧ anyB (fun i => decide (0 < jIx t zf uu (jPA t (nI tt) (nI i)) ∨ (jIx t zf uu (jPA t (nI tt) (nI i)) = 0 ∧ 0 < nI i))) a9 = false) (fun a9 => zf tt - a9) (fun a9 => [(0, .ref (a 36)), (1, .int (nI tt)), (2, .int (nI uu)), (3, .int (nI a9))]) 2 5 ?_ 0 (⟨Nat.zero_le _, rfl⟩) (show lv_has ls 5 [(0, .ref (a 36)), (1, .int (nI tt)), (2, .int (nI uu)), (3, .int (nI 0))] from lv_sub hl [1, 2, 3, 0] rfl)
  intro a9 ls hI hl ih_2
  obtain ⟨i, rfl⟩ : ∃ z, z = a9 := ⟨a9, rfl⟩
  have hI : i ≤ zf tt ∧ anyB (fun i => decide (0 < jIx t zf uu (jPA t (nI tt) (nI i)) ∨ (jIx t zf uu (jPA t (nI tt) (nI i)) = 0 ∧ 0 < nI i))) i = false := hI
  have hl : lv_has ls 5 [(0, .ref (a 36)), (1, .int (nI tt)), (2, .int (nI uu)), (3, .int (nI i))] := hl
  refine lv_iload_n hx hb dX7_crosses_2 rfl (lv_at hl 3 rfl) ?_
  refine lv_aload_n hx hb dX7_crosses_3 rfl (lv_at hl 0 rfl) ?_
  refine lv_iload_n hx hb dX7_crosses_4 rfl (lv_at hl 1 rfl) ?_
  refine ro_V (As := [.int (nI tt)]) (rest := [.int (nI i)]) ⟨hx, hb, hml, hown, hts⟩ (c_X7_sizeOf l D cI cZ a t ht6 (nI tt)) (cw_X7_60 hts rfl rfl ⟨Nat.le_of_ble_eq_true rfl, Nat.le_of_ble_eq_true rfl⟩) hK hP (ci := 7) rfl rfl rfl hl.1 rfl (Nat.le_of_ble_eq_true rfl) dX7_crosses_5 ⟨Nat.zero_le _, Nat.zero_le _⟩ ?_
  rw [rg_in htt (show t.1 < 2 ^ 31 by omega), (hzf tt htt).1]
  refine lv_icmp_ge (tgt := 46) hx hb dX7_crosses_8 (by decide) (fun c_1 => ?_) (fun c_1 => ?_)
  · skip
    have hge : zf tt ≤ i := zge (by have := hI.1; have := (hzf tt htt).2; omega) (by have := (hzf tt htt).2; omega) c_1
    refine lv_iconst (v := 0) hx hb dX7_crosses_46 (by decide) ?_
    exact ro_zret hx hb hr hlocks (nar_zb _) ((zb_f (by unfold jCx; rw [show zf tt = i by have := hI.1; omega, hI.2]; decide)).symm) dX7_crosses_47
  · skip
    have hlt : i < zf tt := zlt (by have := hI.1; have := (hzf tt htt).2; omega) (by have := (hzf tt htt).2; omega) c_1
    refine lv_aload_n hx hb dX7_crosses_11 rfl (lv_at hl 0 rfl) ?_
    refine lv_iload_n hx hb dX7_crosses_12 rfl (lv_at hl 2 rfl) ?_
    refine lv_aload_n hx hb dX7_crosses_13 rfl (lv_at hl 0 rfl) ?_
    refine lv_iload_n hx hb dX7_crosses_14 rfl (lv_at hl 1 rfl) ?_
    refine lv_iload_n hx hb dX7_crosses_15 rfl (lv_at hl 3 rfl) ?_
    refine ro_V (As := [.int (nI tt), .int (nI i)]) (rest := [.int (nI uu), .ref (a 36)]) ⟨hx, hb, hml, hown, hts⟩ (c_X7_placeAt l D cI cZ a t ht6 (nI tt) (nI i)) (cw_X7_63 hts rfl rfl ⟨Nat.le_of_ble_eq_true rfl, Nat.le_of_ble_eq_true rfl⟩) hK hP (ci := 7) rfl rfl rfl hl.1 rfl (Nat.le_of_ble_eq_true rfl) dX7_crosses_16 ⟨Nat.zero_le _, Nat.zero_le _⟩ ?_
    refine ro_V (As := [.int (nI uu), .int (jPA t (nI tt) (nI i))]) (rest := []) ⟨hx, hb, hml, hown, hts⟩ (c_X7_indexOf l D cI cZ a t ht6 zf hzf  uu huu (jPA t (nI tt) (nI i))) (cw_X7_66 hts rfl rfl ⟨Nat.le_of_ble_eq_true rfl, Nat.le_of_ble_eq_true rfl⟩) hK hP (ci := 7) rfl rfl rfl hl.1 rfl (Nat.le_of_ble_eq_true rfl) dX7_crosses_19 ⟨Nat.zero_le _, Nat.zero_le _⟩ ?_
    refine lv_istore (lv' := [(4, .int (jIx t zf uu (jPA t (nI tt) (nI i)))), (0, .ref (a 36)), (1, .int (nI tt)), (2, .int (nI uu)), (3, .int (nI i))]) hx hb dX7_crosses_22 hl (by decide) rfl (fun ls hl => ?_)
    refine lv_iload hx hb dX7_crosses_24 (lv_at hl 0 rfl) ?_
    refine lv_if_gt (tgt := 38) hx hb dX7_crosses_26 (by decide) (fun c_2 => ?_) (fun c_2 => ?_)
    · skip
      refine lv_iconst (v := 1) hx hb dX7_crosses_38 (by decide) ?_
      exact ro_zret hx hb hr hlocks (nar_zb _) ((zb_t ((anyB_iff _).mpr ⟨i, hlt, decide_eq_true (Or.inl c_2)⟩)).symm) dX7_crosses_39
    · skip
      refine lv_iload hx hb dX7_crosses_29 (lv_at hl 0 rfl) ?_
      refine lv_if_ne (tgt := 40) hx hb dX7_crosses_31 (by decide) (fun c_3 => ?_) (fun c_3 => ?_)
      · skip
        refine lv_iinc (v := (nI (i + 1))) (lv' := [(3, .int (nI (i + 1))), (4, .int (jIx t zf uu (jPA t (nI tt) (nI i)))), (0, .ref (a 36)), (1, .int (nI tt)), (2, .int (nI uu))]) hx hb dX7_crosses_40 hl (k := 4) rfl (nI_add i 1) (by decide) rfl (fun ls hl => ?_)
        refine lv_goto (tgt := 2) hx hb dX7_crosses_43 (by decide) ?_
        exact ih_2 (i + 1) ls (show (i + 1) ≤ zf tt ∧ anyB (fun i => decide (0 < jIx t zf uu (jPA t (nI tt) (nI i)) ∨ (jIx t zf uu (jPA t (nI tt) (nI i)) = 0 ∧ 0 < nI i))) (i + 1) = false from ⟨hlt, by rw [anyB, hI.2, Bool.false_or, decide_eq_false_iff_not]; exact fun z => z.elim c_2 (fun y9 => c_3 y9.1)⟩) (show zf tt - (i + 1) < zf tt - i from by omega) (show lv_has ls 5 [(0, .ref (a 36)), (1, .int (nI tt)), (2, .int (nI uu)), (3, .int (nI (i + 1)))] from lv_sub hl [2, 3, 4, 0] rfl)
      · skip
        refine lv_iload_n hx hb dX7_crosses_34 rfl (lv_at hl 4 rfl) ?_
        refine lv_if_le (tgt := 40) hx hb dX7_crosses_35 (by decide) (fun c_4 => ?_) (fun c_4 => ?_)
        · skip
          refine lv_iinc (v := (nI (i + 1))) (lv' := [(3, .int (nI (i + 1))), (4, .int (jIx t zf uu (jPA t (nI tt) (nI i)))), (0, .ref (a 36)), (1, .int (nI tt)), (2, .int (nI uu))]) hx hb dX7_crosses_40 hl (k := 4) rfl (nI_add i 1) (by decide) rfl (fun ls hl => ?_)
          refine lv_goto (tgt := 2) hx hb dX7_crosses_43 (by decide) ?_
          exact ih_2 (i + 1) ls (show (i + 1) ≤ zf tt ∧ anyB (fun i => decide (0 < jIx t zf uu (jPA t (nI tt) (nI i)) ∨ (jIx t zf uu (jPA t (nI tt) (nI i)) = 0 ∧ 0 < nI i))) (i + 1) = false from ⟨hlt, by rw [anyB, hI.2, Bool.false_or, decide_eq_false_iff_not]; exact fun z => z.elim c_2 (fun y9 => absurd y9.2 (Int32.not_lt.mpr c_4))⟩) (show zf tt - (i + 1) < zf tt - i from by omega) (show lv_has ls 5 [(0, .ref (a 36)), (1, .int (nI tt)), (2, .int (nI uu)), (3, .int (nI (i + 1)))] from lv_sub hl [2, 3, 4, 0] rfl)
        · skip
          refine lv_iconst (v := 1) hx hb dX7_crosses_38 (by decide) ?_
          exact ro_zret hx hb hr hlocks (nar_zb _) ((zb_t ((anyB_iff _).mpr ⟨i, hlt, decide_eq_true (Or.inr ⟨c_3, Int32.not_le.mp c_4⟩)⟩)).symm) dX7_crosses_39
