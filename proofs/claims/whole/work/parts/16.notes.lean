/-- the first of n for which P holds; -1: none. whether there is one -/
def fstB (P : Nat → Bool) : Nat → Int32
  | 0 => -1
  | i + 1 => if fstB P i = -1 then (if P i = true then nI i else -1) else fstB P i
def anyB (P : Nat → Bool) : Nat → Bool
  | 0 => false
  | i + 1 => anyB P i || P i
theorem anyB_iff {P : Nat → Bool} : ∀ n, anyB P n = true ↔ ∃ k, k < n ∧ P k = true
  | 0 => ⟨fun h => by simp [anyB] at h, fun ⟨k, h, _⟩ => absurd h (by omega)⟩
  | n + 1 => by
    rw [anyB, Bool.or_eq_true, anyB_iff n]
    constructor
    · rintro (⟨k, h1, h2⟩ | h)
      · exact ⟨k, by omega, h2⟩
      · exact ⟨n, by omega, h⟩
    · rintro ⟨k, h1, h2⟩
      by_cases hk : k = n
      · exact Or.inr (hk ▸ h2)
      · exact Or.inl ⟨k, by omega, h2⟩
theorem nI_nm1 {k : Nat} (h : k < 2 ^ 31) : ¬ nI k = -1 := fun e => absurd (show nI k < 0 by rw [e]; decide) (nI_pos h)
theorem fstB_none {P : Nat → Bool} : ∀ n, anyB P n = false → fstB P n = -1
  | 0, _ => rfl
  | n + 1, h => by
    rw [anyB, Bool.or_eq_false_iff] at h
    rw [fstB, if_pos (fstB_none n h.1), if_neg (by rw [h.2]; decide)]
theorem fstB_at {P : Nat → Bool} {k : Nat} (hk : k < 2 ^ 31) (h : anyB P k = false) (hp : P k = true) : ∀ d, fstB P (k + 1 + d) = nI k
  | 0 => by rw [Nat.add_zero, fstB, if_pos (fstB_none k h), if_pos hp]
  | d + 1 => by rw [← Nat.add_assoc, fstB, fstB_at hk h hp d, if_neg (nI_nm1 hk)]
def jEx (pb : Nat → Int32) (x k : Int32) : Int32 := if (zPb pb x &&& (zbt k ^^^ (-1))) = 0 then zPb pb x else zPb pb x &&& (zbt k ^^^ (-1))
def jWs (N : TN) (pb wy : Nat → Int32) (t x k : Int32) : Nat → Int32
  | 0 => 0
  | i + 1 => if (jEx pb x k &&& zbt (nI i)) = 0 then jWs N pb wy t x k i else jWs N pb wy t x k i + rg 256 wy ((t + 1) * 32 + jArc N x (nI i))
def jWo (S : TS) (sb : Nat → Int32) (q : TQ) (N : TN) (pb : Nat → Int32) (o : TO) (wy : Nat → Int32) (t x k : Int32) : Int32 :=
  if ¬ rg o.1 o.2 t = -1 ∧ ¬ rg o.1 o.2 t = jKs S sb q N x k (S_n S) then 0 else if t = nI o.1 - 1 then 1 else jWs N pb wy t x k (N_n N)
def jPo (N : TN) (pb wy : Nat → Int32) (t x k : Int32) : Int32 := fstB (fun i => decide (¬ (jEx pb x k &&& zbt (nI i)) = 0 ∧ 0 < rg 256 wy (t * 32 + jArc N x (nI i)))) (N_n N)
/-- the inner loop at the note j; all notes from the last to the one behind j -/
def jW1 (S : TS) (sb : Nat → Int32) (q : TQ) (N : TN) (pb : Nat → Int32) (o : TO) (j : Nat) (wy : Nat → Int32) : Nat → (Nat → Int32)
  | 0 => wy
  | i + 1 => upd (jW1 S sb q N pb o j wy i) (j * 32 + i) (jWo S sb q N pb o (jW1 S sb q N pb o j wy i) (nI j) (jEnd N (nI i)) (nI i >>> ((1 : Int32) &&& 31)))
def jWd (S : TS) (sb : Nat → Int32) (q : TQ) (N : TN) (pb : Nat → Int32) (o : TO) (wy : Nat → Int32) : Nat → (Nat → Int32)
  | 0 => wy
  | d + 1 => jW1 S sb q N pb o (o.1 - 1 - d) (jWd S sb q N pb o wy d) (2 * N_n N)
def jWy (S : TS) (sb : Nat → Int32) (q : TQ) (N : TN) (pb : Nat → Int32) (o : TO) (wy : Nat → Int32) : Nat → Int32 := jWd S sb q N pb o wy (o.1 - 1)
def jWf (S : TS) (sb : Nat → Int32) (q : TQ) (N : TN) (pb : Nat → Int32) (o : TO) (wy : Nat → Int32) (x : Int32) : Int32 := if o.1 = 0 then 1 else jWo S sb q N pb o (jWy S sb q N pb o wy) 0 x (-1)
def jPg (N : TN) (pb wy : Nat → Int32) : Nat → Nat → Int32 → Int32 → Int32
  | 0, _, h, _ => h
  | n + 1, t, h, cm => if jPo N pb wy (nI t) h cm = -1 then -1 else jPg N pb wy n (t + 1) (jOE N h (jPo N pb wy (nI t) h cm)) (jPo N pb wy (nI t) h cm)
def jPw (N : TN) (pb : Nat → Int32) (o : TO) (wy : Nat → Int32) (x i : Int32) : Int32 := if i < 0 then -1 else if nI o.1 ≤ i then -1 else jPg N pb wy i.toNatClampNeg 1 x (-1)
set_option maxHeartbeats 4000000 in
set_option maxRecDepth 100000 in
theorem c_X3_noteCount (l : Launch) (D : va_G) (cI cZ : ClassId) (a : Nat → Nat) (o : TO) (wy : Nat → Int32) (ho8 : o.1 ≤ 8) : RO l D cI cZ yX3_noteCount wyX3_noteCount ({ frames := 1, cells := 0, slots := 0, locals := 20 } : Room) [.ref (a 28)] (wNt a cI o wy) (nI o.1) := by
  refine Met.ofW (cc := cX3_noteCount) (maxL := 1) (ret := (some .int)) (by decide) rfl ?_
  intro p e s m args below meth c s₁ B hml hv
  obtain ⟨rfl, hK, hP⟩ := hv
  have hx := B.exec
  have hb := B.bytes
  have hr := B.returns
  have hts0 := atoms_spec (ws := wyX3_noteCount) B.pre
  have hts : ∀ w ∈ big, w.before _ s = true := fun w h => hts0 w (List.mem_cons_of_mem _ h)
  have hown : s.vm.findClass RX3 = some m.cls := findClass_of_methodNamed B.named
  have hlocks := B.notSynchronized
  have hl := lv_entry ([.ref (a 28)]) (n := 1) (Nat.le_of_ble_eq_true rfl)
  rw [lg_entry_eq]
  generalize (lg_sl ([.ref (a 28)]) ++ List.replicate (1 - (lg_sl ([.ref (a 28)])).length) Slot.unset).toArray = ls at hl ⊢
  have hl : lv_has ls 1 [(0, .ref (a 28))] := hl
  refine lv_aload_n hx hb dX3_noteCount_0 rfl (lv_at hl 0 rfl) ?_
  refine va_get (D := D) (ci := 3) (v := .ref (a 29)) (C := RX3) (T := TX3) (N := 4) hx hb hts hin3 hown hK.1 hP 0 rfl rfl 2 (by decide) (hts _ fl_X3_16) (fun _ h9 => h9) rfl dX3_noteCount_1 ?_
  refine ro_V (As := []) (rest := []) ⟨hx, hb, hml, hown, hts⟩ (c_X5_size l D cI cZ (a 29) (a 30) 8 (o.1) (o.2) ho8 (by decide)) (cw_X3_37 hts rfl rfl ⟨Nat.le_of_ble_eq_true rfl, Nat.le_of_ble_eq_true rfl⟩) hK (hP.sub [1, 2] rfl) (ci := 5) rfl rfl rfl hl.1 rfl (Nat.le_of_ble_eq_true rfl) dX3_noteCount_4 ⟨Nat.zero_le _, Nat.zero_le _⟩ ?_
  exact ro_iret hx hb hr hlocks (rfl) dX3_noteCount_7

set_option maxHeartbeats 4000000 in
set_option maxRecDepth 100000 in
theorem c_X3_takeDown (l : Launch) (D : va_G) (cI cZ : ClassId) (a : Nat → Nat) (o : TO) (wy : Nat → Int32) (ho8 : o.1 < 8) (v : Int32) : MI l D cI cZ yX3_takeDown wyX3_takeDown ({ frames := 1, cells := 0, slots := 0, locals := 21 } : Room) [.ref (a 28), .int v] (wNt a cI o wy) (fun r _ => r = nI (o.1 + 1)) (fun (_ : Unit) => wNt a cI (o.1 + 1, upd o.2 o.1 v) wy) := by
  refine Met.ofW (cc := cX3_takeDown) (maxL := 2) (ret := (some .int)) (by decide) rfl ?_
  intro p e s m args below meth c s₁ B hml hv
  obtain ⟨rfl, hK, hP, hD0⟩ := hv
  have hx := B.exec
  have hb := B.bytes
  have hr := B.returns
  have hts0 := atoms_spec (ws := wyX3_takeDown) B.pre
  have hts : ∀ w ∈ big, w.before _ s = true := fun w h => hts0 w (List.mem_cons_of_mem _ h)
  have hown : s.vm.findClass RX3 = some m.cls := findClass_of_methodNamed B.named
  have hlocks := B.notSynchronized
  have hD := D_inW hD0
  have hS : va_S (inW (wNt a cI o wy)) s.heap s.heap [] := va_S.rf
  have hl := lv_entry ([.ref (a 28), .int v]) (n := 2) (Nat.le_of_ble_eq_true rfl)
  rw [lg_entry_eq]
  generalize (lg_sl ([.ref (a 28), .int v]) ++ List.replicate (2 - (lg_sl ([.ref (a 28), .int v])).length) Slot.unset).toArray = ls at hl ⊢
  have hl : lv_has ls 2 [(0, .ref (a 28)), (1, .int v)] := hl
  refine lv_aload_n hx hb dX3_takeDown_0 rfl (lv_at hl 0 rfl) ?_
  refine va_get (D := D) (ci := 3) (v := .ref (a 29)) (C := RX3) (T := TX3) (N := 4) hx hb hts hin3 hown hK.1 hP 0 rfl rfl 2 (by decide) (hts _ fl_X3_16) (fun _ h9 => h9) rfl dX3_takeDown_1 ?_
  refine lv_iload_n hx hb dX3_takeDown_4 rfl (lv_at hl 1 rfl) ?_
  refine mi_V2 (As := [.int v]) (rest := []) ⟨hx, hb, hml, hown, hts⟩ (c_X5_push l D cI cZ (a 29) (a 30) 8 (o.1) (o.2) ho8 (by decide) v) (cw_X3_41 hts rfl rfl ⟨Nat.le_of_ble_eq_true rfl, Nat.le_of_ble_eq_true rfl⟩) hK hP hD hS 5 rfl [1, 2] [0, 3, 4] (fun (_ : Unit) => ([((a 28), .inr (3, [.ref (a 1), .ref (a 10), .ref (a 29), .ref (a 31)])), ((a 29), .inr (5, [.ref (a 30), .int (nI ((o.1) + 1))])), ((a 30), .inl (cI, (8, .inl (upd (o.2) (o.1) v)))), ((a 31), .inr (5, [.ref (a 32), .int (nI 256)])), ((a 32), .inl (cI, (256, .inl wy)))] : va_W)) rfl (by decide) (fun u => rfl) [(a 29), (a 30)] rfl (fun u => rfl) ([((a 28), .inr (3, [.ref (a 1), .ref (a 10), .ref (a 29), .ref (a 31)])), ((a 31), .inr (5, [.ref (a 32), .int (nI 256)])), ((a 32), .inl (cI, (256, .inl wy)))] : va_W) rfl (fun u => rfl) [(a 28), (a 29), (a 30), (a 31), (a 32)] rfl (fun u => rfl) (by decide) (by decide) (by decide) (ci := 5) rfl rfl rfl hl.1 rfl (Nat.le_of_ble_eq_true rfl) dX3_takeDown_5 ⟨Nat.zero_le _, Nat.zero_le _⟩ (fun r u H locs hp hP hD hS => ?_)
  have hp : r = nI ((o.1) + 1) := hp
  subst hp
  have hP : va_P D vwCl (([((a 28), .inr (3, [.ref (a 1), .ref (a 10), .ref (a 29), .ref (a 31)])), ((a 29), .inr (5, [.ref (a 30), .int (nI ((o.1) + 1))])), ((a 30), .inl (cI, (8, .inl (upd (o.2) (o.1) v)))), ((a 31), .inr (5, [.ref (a 32), .int (nI 256)])), ((a 32), .inl (cI, (256, .inl wy)))] : va_W)) H := hP
  have hD : va_D _ (([((a 28), .inr (3, [.ref (a 1), .ref (a 10), .ref (a 29), .ref (a 31)])), ((a 29), .inr (5, [.ref (a 30), .int (nI ((o.1) + 1))])), ((a 30), .inl (cI, (8, .inl (upd (o.2) (o.1) v)))), ((a 31), .inr (5, [.ref (a 32), .int (nI 256)])), ((a 32), .inl (cI, (256, .inl wy)))] : va_W)) := hD
  exact mu_iret (v := (nI ((o.1) + 1))) hx hb hr hlocks (()) (rfl) (hP) hS dX3_takeDown_8

set_option maxHeartbeats 4000000 in
set_option maxRecDepth 100000 in
theorem c_X3_dropAll (l : Launch) (D : va_G) (cI cZ : ClassId) (a : Nat → Nat) (o : TO) (wy : Nat → Int32) (ho8 : o.1 ≤ 8) : MI l D cI cZ yX3_dropAll wyX3_dropAll ({ frames := 1, cells := 0, slots := 0, locals := 21 } : Room) [.ref (a 28)] (wNt a cI o wy) (fun r _ => r = nI o.1) (fun (_ : Unit) => wNt a cI (0, o.2) wy) := by
  refine Met.ofW (cc := cX3_dropAll) (maxL := 1) (ret := (some .int)) (by decide) rfl ?_
  intro p e s m args below meth c s₁ B hml hv
  obtain ⟨rfl, hK, hP, hD0⟩ := hv
  have hx := B.exec
  have hb := B.bytes
  have hr := B.returns
  have hts0 := atoms_spec (ws := wyX3_dropAll) B.pre
  have hts : ∀ w ∈ big, w.before _ s = true := fun w h => hts0 w (List.mem_cons_of_mem _ h)
  have hown : s.vm.findClass RX3 = some m.cls := findClass_of_methodNamed B.named
  have hlocks := B.notSynchronized
  have hD := D_inW hD0
  have hS : va_S (inW (wNt a cI o wy)) s.heap s.heap [] := va_S.rf
  have hl := lv_entry ([.ref (a 28)]) (n := 1) (Nat.le_of_ble_eq_true rfl)
  rw [lg_entry_eq]
  generalize (lg_sl ([.ref (a 28)]) ++ List.replicate (1 - (lg_sl ([.ref (a 28)])).length) Slot.unset).toArray = ls at hl ⊢
  have hl : lv_has ls 1 [(0, .ref (a 28))] := hl
  refine lv_aload_n hx hb dX3_dropAll_0 rfl (lv_at hl 0 rfl) ?_
  refine va_get (D := D) (ci := 3) (v := .ref (a 29)) (C := RX3) (T := TX3) (N := 4) hx hb hts hin3 hown hK.1 hP 0 rfl rfl 2 (by decide) (hts _ fl_X3_16) (fun _ h9 => h9) rfl dX3_dropAll_1 ?_
  refine mi_V2 (As := []) (rest := []) ⟨hx, hb, hml, hown, hts⟩ (c_X5_clear l D cI cZ (a 29) (a 30) 8 (o.1) (o.2)) (cw_X3_45 hts rfl rfl ⟨Nat.le_of_ble_eq_true rfl, Nat.le_of_ble_eq_true rfl⟩) hK hP hD hS 5 rfl [1, 2] [0, 3, 4] (fun (_ : Unit) => ([((a 28), .inr (3, [.ref (a 1), .ref (a 10), .ref (a 29), .ref (a 31)])), ((a 29), .inr (5, [.ref (a 30), .int (nI 0)])), ((a 30), .inl (cI, (8, .inl (o.2)))), ((a 31), .inr (5, [.ref (a 32), .int (nI 256)])), ((a 32), .inl (cI, (256, .inl wy)))] : va_W)) rfl (by decide) (fun u => rfl) [(a 29), (a 30)] rfl (fun u => rfl) ([((a 28), .inr (3, [.ref (a 1), .ref (a 10), .ref (a 29), .ref (a 31)])), ((a 31), .inr (5, [.ref (a 32), .int (nI 256)])), ((a 32), .inl (cI, (256, .inl wy)))] : va_W) rfl (fun u => rfl) [(a 28), (a 29), (a 30), (a 31), (a 32)] rfl (fun u => rfl) (by decide) (by decide) (by decide) (ci := 5) rfl rfl rfl hl.1 rfl (Nat.le_of_ble_eq_true rfl) dX3_dropAll_4 ⟨Nat.zero_le _, Nat.zero_le _⟩ (fun r u H locs hp hP hD hS => ?_)
  have hp : r = nI (o.1) := hp
  subst hp
  have hP : va_P D vwCl (([((a 28), .inr (3, [.ref (a 1), .ref (a 10), .ref (a 29), .ref (a 31)])), ((a 29), .inr (5, [.ref (a 30), .int (nI 0)])), ((a 30), .inl (cI, (8, .inl (o.2)))), ((a 31), .inr (5, [.ref (a 32), .int (nI 256)])), ((a 32), .inl (cI, (256, .inl wy)))] : va_W)) H := hP
  have hD : va_D _ (([((a 28), .inr (3, [.ref (a 1), .ref (a 10), .ref (a 29), .ref (a 31)])), ((a 29), .inr (5, [.ref (a 30), .int (nI 0)])), ((a 30), .inl (cI, (8, .inl (o.2)))), ((a 31), .inr (5, [.ref (a 32), .int (nI 256)])), ((a 32), .inl (cI, (256, .inl wy)))] : va_W)) := hD
  exact mu_iret (v := (nI (o.1))) hx hb hr hlocks (()) (rfl) (hP) hS dX3_dropAll_7

set_option maxHeartbeats 4000000 in
set_option maxRecDepth 100000 in
theorem c_X3_exitsFrom (l : Launch) (D : va_G) (cI cZ : ClassId) (a : Nat → Nat) (o : TO) (wy : Nat → Int32) (ho8 : o.1 ≤ 8) (N : TN) (pb : Nat → Int32) (hN16 : N_n N ≤ 16) (x k : Int32) : RO l D cI cZ yX3_exitsFrom wyX3_exitsFrom ({ frames := 3, cells := 0, slots := 0, locals := 63 } : Room) [.ref (a 28), .int x, .int k] (wNt a cI o wy ++ wNet a cI N pb) (jEx pb x k) := by
  refine Met.ofW (cc := cX3_exitsFrom) (maxL := 4) (ret := (some .int)) (by decide) rfl ?_
  intro p e s m args below meth c s₁ B hml hv
  obtain ⟨rfl, hK, hP⟩ := hv
  have hx := B.exec
  have hb := B.bytes
  have hr := B.returns
  have hts0 := atoms_spec (ws := wyX3_exitsFrom) B.pre
  have hts : ∀ w ∈ big, w.before _ s = true := fun w h => hts0 w (List.mem_cons_of_mem _ h)
  have hown : s.vm.findClass RX3 = some m.cls := findClass_of_methodNamed B.named
  have hlocks := B.notSynchronized
  have hl := lv_entry ([.ref (a 28), .int x, .int k]) (n := 4) (Nat.le_of_ble_eq_true rfl)
  rw [lg_entry_eq]
  generalize (lg_sl ([.ref (a 28), .int x, .int k]) ++ List.replicate (4 - (lg_sl ([.ref (a 28), .int x, .int k])).length) Slot.unset).toArray = ls at hl ⊢
  have hl : lv_has ls 4 [(0, .ref (a 28)), (1, .int x), (2, .int k)] := hl
  refine lv_aload_n hx hb dX3_exitsFrom_0 rfl (lv_at hl 0 rfl) ?_
  refine va_get (D := D) (ci := 3) (v := .ref (a 1)) (C := RX3) (T := TX3) (N := 4) hx hb hts hin3 hown hK.1 hP 0 rfl rfl 0 (by decide) (hts _ fl_X3_29) (fun _ h9 => h9) rfl dX3_exitsFrom_1 ?_
  refine lv_iload_n hx hb dX3_exitsFrom_4 rfl (lv_at hl 1 rfl) ?_
  refine ro_V (As := [.int x]) (rest := []) ⟨hx, hb, hml, hown, hts⟩ (c_X2_pathsAt l D cI cZ a N pb hN16 x) (cw_X3_83 hts rfl rfl ⟨Nat.le_of_ble_eq_true rfl, Nat.le_of_ble_eq_true rfl⟩) hK (hP.sub [5, 6, 7, 8, 9, 10, 11, 12, 13] rfl) (ci := 2) rfl rfl rfl hl.1 rfl (Nat.le_of_ble_eq_true rfl) dX3_exitsFrom_5 ⟨Nat.zero_le _, Nat.zero_le _⟩ ?_
  refine lv_iload_n hx hb dX3_exitsFrom_8 rfl (lv_at hl 2 rfl) ?_
  refine ro_SN (As := [.int k]) (rest := [.int (zPb pb x)]) ⟨hx, hb, hml, hown, hts⟩ (c_X9_bitOf l D cI cZ  k) (cw_X3_77 hts rfl rfl hK ⟨Nat.le_of_ble_eq_true rfl, Nat.le_of_ble_eq_true rfl⟩) hK P_nil rfl hl.1 rfl (Nat.le_of_ble_eq_true rfl) dX3_exitsFrom_9 ⟨Nat.zero_le _, Nat.zero_le _⟩ ?_
  refine lv_iconst (v := (-1)) hx hb dX3_exitsFrom_12 (by decide) ?_
  refine lv_ixor hx hb dX3_exitsFrom_13 ?_
  refine lv_iand hx hb dX3_exitsFrom_14 ?_
  refine lv_istore_n (lv' := [(3, .int ((zPb pb x) &&& ((zbt k) ^^^ (-1)))), (0, .ref (a 28)), (1, .int x), (2, .int k)]) hx hb dX3_exitsFrom_15 rfl hl (by decide) rfl (fun ls hl => ?_)
  refine lv_iload_n hx hb dX3_exitsFrom_16 rfl (lv_at hl 0 rfl) ?_
  refine lv_if_ne (tgt := 31) hx hb dX3_exitsFrom_17 (by decide) (fun c_1 => ?_) (fun c_1 => ?_)
  · skip
    refine lv_iload_n hx hb dX3_exitsFrom_31 rfl (lv_at hl 0 rfl) ?_
    exact ro_iret hx hb hr hlocks (by unfold jEx; (first | rw [if_pos c_1] | rw [if_neg c_1] | skip)) dX3_exitsFrom_32
  · skip
    refine lv_aload_n hx hb dX3_exitsFrom_20 rfl (lv_at hl 1 rfl) ?_
    refine va_get (D := D) (ci := 3) (v := .ref (a 1)) (C := RX3) (T := TX3) (N := 4) hx hb hts hin3 hown hK.1 hP 0 rfl rfl 0 (by decide) (hts _ fl_X3_29) (fun _ h9 => h9) rfl dX3_exitsFrom_21 ?_
    refine lv_iload_n hx hb dX3_exitsFrom_24 rfl (lv_at hl 2 rfl) ?_
    refine ro_V (As := [.int x]) (rest := []) ⟨hx, hb, hml, hown, hts⟩ (c_X2_pathsAt l D cI cZ a N pb hN16 x) (cw_X3_83 hts rfl rfl ⟨Nat.le_of_ble_eq_true rfl, Nat.le_of_ble_eq_true rfl⟩) hK (hP.sub [5, 6, 7, 8, 9, 10, 11, 12, 13] rfl) (ci := 2) rfl rfl rfl hl.1 rfl (Nat.le_of_ble_eq_true rfl) dX3_exitsFrom_25 ⟨Nat.zero_le _, Nat.zero_le _⟩ ?_
    refine lv_goto (tgt := 32) hx hb dX3_exitsFrom_28 (by decide) ?_
    exact ro_iret hx hb hr hlocks (by unfold jEx; (first | rw [if_pos c_1] | rw [if_neg c_1] | skip)) dX3_exitsFrom_32

set_option maxHeartbeats 4000000 in
set_option maxRecDepth 100000 in
theorem c_X3_waysBehind (l : Launch) (D : va_G) (cI cZ : ClassId) (a : Nat → Nat) (o : TO) (wy : Nat → Int32) (ho8 : o.1 ≤ 8) (N : TN) (pb : Nat → Int32) (hN16 : N_n N ≤ 16) (t x k : Int32) : RO l D cI cZ yX3_waysBehind wyX3_waysBehind ({ frames := 2, cells := 0, slots := 0, locals := 43 } : Room) [.ref (a 28), .int t, .int x, .int k] (wNt a cI o wy ++ wNet a cI N pb) (rg 256 wy (t * 32 + jArc N x k)) := by
  refine Met.ofW (cc := cX3_waysBehind) (maxL := 4) (ret := (some .int)) (by decide) rfl ?_
  intro p e s m args below meth c s₁ B hml hv
  obtain ⟨rfl, hK, hP⟩ := hv
  have hx := B.exec
  have hb := B.bytes
  have hr := B.returns
  have hts0 := atoms_spec (ws := wyX3_waysBehind) B.pre
  have hts : ∀ w ∈ big, w.before _ s = true := fun w h => hts0 w (List.mem_cons_of_mem _ h)
  have hown : s.vm.findClass RX3 = some m.cls := findClass_of_methodNamed B.named
  have hlocks := B.notSynchronized
  have hl := lv_entry ([.ref (a 28), .int t, .int x, .int k]) (n := 4) (Nat.le_of_ble_eq_true rfl)
  rw [lg_entry_eq]
  generalize (lg_sl ([.ref (a 28), .int t, .int x, .int k]) ++ List.replicate (4 - (lg_sl ([.ref (a 28), .int t, .int x, .int k])).length) Slot.unset).toArray = ls at hl ⊢
  have hl : lv_has ls 4 [(0, .ref (a 28)), (1, .int t), (2, .int x), (3, .int k)] := hl
  refine lv_aload_n hx hb dX3_waysBehind_0 rfl (lv_at hl 0 rfl) ?_
  refine va_get (D := D) (ci := 3) (v := .ref (a 31)) (C := RX3) (T := TX3) (N := 4) hx hb hts hin3 hown hK.1 hP 0 rfl rfl 3 (by decide) (hts _ fl_X3_26) (fun _ h9 => h9) rfl dX3_waysBehind_1 ?_
  refine lv_iload_n hx hb dX3_waysBehind_4 rfl (lv_at hl 1 rfl) ?_
  refine lv_bipush (v := 32) hx hb dX3_waysBehind_5 (by decide) ?_
  refine lv_imul hx hb dX3_waysBehind_7 ?_
  refine lv_aload_n hx hb dX3_waysBehind_8 rfl (lv_at hl 0 rfl) ?_
  refine va_get (D := D) (ci := 3) (v := .ref (a 1)) (C := RX3) (T := TX3) (N := 4) hx hb hts hin3 hown hK.1 hP 0 rfl rfl 0 (by decide) (hts _ fl_X3_29) (fun _ h9 => h9) rfl dX3_waysBehind_9 ?_
  refine lv_iload_n hx hb dX3_waysBehind_12 rfl (lv_at hl 2 rfl) ?_
  refine lv_iload_n hx hb dX3_waysBehind_13 rfl (lv_at hl 3 rfl) ?_
  refine ro_V (As := [.int x, .int k]) (rest := [.int (t * 32), .ref (a 31)]) ⟨hx, hb, hml, hown, hts⟩ (c_X2_arcFrom l D cI cZ a N pb hN16 x k) (cw_X3_86 hts rfl rfl ⟨Nat.le_of_ble_eq_true rfl, Nat.le_of_ble_eq_true rfl⟩) hK (hP.sub [5, 6, 7, 8, 9, 10, 11, 12, 13] rfl) (ci := 2) rfl rfl rfl hl.1 rfl (Nat.le_of_ble_eq_true rfl) dX3_waysBehind_14 ⟨Nat.zero_le _, Nat.zero_le _⟩ ?_
  refine lv_iadd hx hb dX3_waysBehind_17 ?_
  refine ro_V (As := [.int ((t * 32) + (jArc N x k))]) (rest := []) ⟨hx, hb, hml, hown, hts⟩ (c_X5_get l D cI cZ (a 31) (a 32) 256 256 wy (by decide) (by decide) ((t * 32) + (jArc N x k))) (cw_X3_65 hts rfl rfl ⟨Nat.le_of_ble_eq_true rfl, Nat.le_of_ble_eq_true rfl⟩) hK (hP.sub [3, 4] rfl) (ci := 5) rfl rfl rfl hl.1 rfl (Nat.le_of_ble_eq_true rfl) dX3_waysBehind_18 ⟨Nat.zero_le _, Nat.zero_le _⟩ ?_
  exact ro_iret hx hb hr hlocks (rfl) dX3_waysBehind_21

set_option maxHeartbeats 4000000 in
set_option maxRecDepth 100000 in
theorem c_X3_waysOn (l : Launch) (D : va_G) (cI cZ : ClassId) (a : Nat → Nat) (o : TO) (wy : Nat → Int32) (ho8 : o.1 ≤ 8) (S : TS) (sb : Nat → Int32) (q : TQ) (hS24 : S_n S ≤ 24) (N : TN) (pb : Nat → Int32) (hN16 : N_n N ≤ 16) (t x k : Int32) : RO l D cI cZ yX3_waysOn wyX3_waysOn ({ frames := 4, cells := 0, slots := 0, locals := 90 } : Room) [.ref (a 28), .int t, .int x, .int k] (wNt a cI o wy ++ wSg a cI S sb q ++ wNet a cI N pb) (jWo S sb q N pb o wy t x k) := by
  refine Met.ofW (cc := cX3_waysOn) (maxL := 8) (ret := (some .int)) (by decide) rfl ?_
  intro p e s m args below meth c s₁ B hml hv
  obtain ⟨rfl, hK, hP⟩ := hv
  have hx := B.exec
  have hb := B.bytes
  have hr := B.returns
  have hts0 := atoms_spec (ws := wyX3_waysOn) B.pre
  have hts : ∀ w ∈ big, w.before _ s = true := fun w h => hts0 w (List.mem_cons_of_mem _ h)
  have hown : s.vm.findClass RX3 = some m.cls := findClass_of_methodNamed B.named
  have hlocks := B.notSynchronized
  have hl := lv_entry ([.ref (a 28), .int t, .int x, .int k]) (n := 8) (Nat.le_of_ble_eq_true rfl)
  rw [lg_entry_eq]
  generalize (lg_sl ([.ref (a 28), .int t, .int x, .int k]) ++ List.replicate (8 - (lg_sl ([.ref (a 28), .int t, .int x, .int k])).length) Slot.unset).toArray = ls at hl ⊢
  have hl : lv_has ls 8 [(0, .ref (a 28)), (1, .int t), (2, .int x), (3, .int k)] := hl
  refine lv_aload_n hx hb dX3_waysOn_0 rfl (lv_at hl 0 rfl) ?_
  refine va_get (D := D) (ci := 3) (v := .ref (a 29)) (C := RX3) (T := TX3) (N := 4) hx hb hts hin3 hown hK.1 hP 0 rfl rfl 2 (by decide) (hts _ fl_X3_16) (fun _ h9 => h9) rfl dX3_waysOn_1 ?_
  refine lv_iload_n hx hb dX3_waysOn_4 rfl (lv_at hl 1 rfl) ?_
  refine ro_V (As := [.int t]) (rest := []) ⟨hx, hb, hml, hown, hts⟩ (c_X5_get l D cI cZ (a 29) (a 30) 8 (o.1) (o.2) ho8 (by decide) t) (cw_X3_65 hts rfl rfl ⟨Nat.le_of_ble_eq_true rfl, Nat.le_of_ble_eq_true rfl⟩) hK (hP.sub [1, 2] rfl) (ci := 5) rfl rfl rfl hl.1 rfl (Nat.le_of_ble_eq_true rfl) dX3_waysOn_5 ⟨Nat.zero_le _, Nat.zero_le _⟩ ?_
  refine lv_istore (lv' := [(4, .int (rg (o.1) (o.2) t)), (0, .ref (a 28)), (1, .int t), (2, .int x), (3, .int k)]) hx hb dX3_waysOn_8 hl (by decide) rfl (fun ls hl => ?_)
  refine lv_iload hx hb dX3_waysOn_10 (lv_at hl 0 rfl) ?_
  refine lv_iconst (v := (-1)) hx hb dX3_waysOn_12 (by decide) ?_
  refine lv_icmp_eq (tgt := 32) hx hb dX3_waysOn_13 (by decide) (fun c_1 => ?_) (fun c_1 => ?_)
  · skip
    refine lv_iload_n hx hb dX3_waysOn_32 rfl (lv_at hl 2 rfl) ?_
    refine lv_aload_n hx hb dX3_waysOn_33 rfl (lv_at hl 1 rfl) ?_
    refine ro_V (As := []) (rest := [.int t]) ⟨hx, hb, hml, hown, hts⟩ (c_X3_noteCount l D cI cZ a o wy ho8) (cw_X3_48 hts rfl rfl ⟨Nat.le_of_ble_eq_true rfl, Nat.le_of_ble_eq_true rfl⟩) hK (hP.sub [0, 1, 2, 3, 4] rfl) (ci := 3) rfl rfl rfl hl.1 rfl (Nat.le_of_ble_eq_true rfl) dX3_waysOn_34 ⟨Nat.zero_le _, Nat.zero_le _⟩ ?_
    refine lv_iconst (v := 1) hx hb dX3_waysOn_37 (by decide) ?_
    refine lv_isub hx hb dX3_waysOn_38 ?_
    refine lv_icmp_ne (tgt := 44) hx hb dX3_waysOn_39 (by decide) (fun c_2 => ?_) (fun c_2 => ?_)
    · skip
      refine lv_aload_n hx hb dX3_waysOn_44 rfl (lv_at hl 1 rfl) ?_
      refine lv_iload_n hx hb dX3_waysOn_45 rfl (lv_at hl 3 rfl) ?_
      refine lv_iload_n hx hb dX3_waysOn_46 rfl (lv_at hl 4 rfl) ?_
      refine ro_V (As := [.int x, .int k]) (rest := []) ⟨hx, hb, hml, hown, hts⟩ (c_X3_exitsFrom l D cI cZ a o wy ho8 N pb hN16 x k) (cw_X3_74 hts rfl rfl ⟨Nat.le_of_ble_eq_true rfl, Nat.le_of_ble_eq_true rfl⟩) hK (hP.sub [0, 1, 2, 3, 4, 20, 21, 22, 23, 24, 25, 26, 27, 28] rfl) (ci := 3) rfl rfl rfl hl.1 rfl (Nat.le_of_ble_eq_true rfl) dX3_waysOn_47 ⟨Nat.zero_le _, Nat.zero_le _⟩ ?_
      refine lv_istore (lv' := [(5, .int (jEx pb x k)), (4, .int (rg (o.1) (o.2) t)), (0, .ref (a 28)), (1, .int t), (2, .int x), (3, .int k)]) hx hb dX3_waysOn_50 hl (by decide) rfl (fun ls hl => ?_)
      refine lv_iconst (v := 0) hx hb dX3_waysOn_52 (by decide) ?_
      refine lv_istore (lv' := [(6, .int 0), (5, .int (jEx pb x k)), (4, .int (rg (o.1) (o.2) t)), (0, .ref (a 28)), (1, .int t), (2, .int x), (3, .int k)]) hx hb dX3_waysOn_53 hl (by decide) rfl (fun ls hl => ?_)
      refine lv_iconst (v := 0) hx hb dX3_waysOn_55 (by decide) ?_
      refine lv_istore (lv' := [(7, .int 0), (6, .int 0), (5, .int (jEx pb x k)), (4, .int (rg (o.1) (o.2) t)), (0, .ref (a 28)), (1, .int t), (2, .int x), (3, .int k)]) hx hb dX3_waysOn_56 hl (by decide) rfl (fun ls hl => ?_)
      refine w_loop (α := Nat) (fun a9 => a9 ≤ N_n N) (fun a9 => N_n N - a9) (fun a9 => [(0, .ref (a 28)), (1, .int t), (2, .int x), (3, .int k), (5, .int (jEx pb x k)), (6, .int (jWs N pb wy t x k a9)), (7, .int (nI a9))]) 58 8 ?_ 0 (Nat.zero_le _) (show lv_has ls 8 [(0, .ref (a 28)), (1, .int t), (2, .int x), (3, .int k), (5, .int (jEx pb x k)), (6, .int (jWs N pb wy t x k 0)), (7, .int (nI 0))] from lv_sub hl [4, 5, 6, 7, 2, 1, 0] rfl)
      intro a9 ls hI hl ih_58
      obtain ⟨i, rfl⟩ : ∃ z, z = a9 := ⟨a9, rfl⟩
      have hI : i ≤ N_n N := hI
      have hl : lv_has ls 8 [(0, .ref (a 28)), (1, .int t), (2, .int x), (3, .int k), (5, .int (jEx pb x k)), (6, .int (jWs N pb wy t x k i)), (7, .int (nI i))] := hl
      refine lv_iload hx hb dX3_waysOn_58 (lv_at hl 6 rfl) ?_
      refine lv_aload_n hx hb dX3_waysOn_60 rfl (lv_at hl 0 rfl) ?_
      refine va_get (D := D) (ci := 3) (v := .ref (a 1)) (C := RX3) (T := TX3) (N := 4) hx hb hts hin3 hown hK.1 hP 0 rfl rfl 0 (by decide) (hts _ fl_X3_29) (fun _ h9 => h9) rfl dX3_waysOn_61 ?_
      refine ro_V (As := []) (rest := [.int (nI i)]) ⟨hx, hb, hml, hown, hts⟩ (c_X2_pathCount l D cI cZ a N pb hN16) (cw_X3_51 hts rfl rfl ⟨Nat.le_of_ble_eq_true rfl, Nat.le_of_ble_eq_true rfl⟩) hK (hP.sub [20, 21, 22, 23, 24, 25, 26, 27, 28] rfl) (ci := 2) rfl rfl rfl hl.1 rfl (Nat.le_of_ble_eq_true rfl) dX3_waysOn_64 ⟨Nat.zero_le _, Nat.zero_le _⟩ ?_
      refine lv_icmp_ge (tgt := 102) hx hb dX3_waysOn_67 (by decide) (fun c_3 => ?_) (fun c_3 => ?_)
      · skip
        have hge : N_n N ≤ i := zge (by have := hI; have := hN16; omega) (by have := hN16; omega) c_3
        refine lv_iload hx hb dX3_waysOn_102 (lv_at hl 5 rfl) ?_
        exact ro_iret hx hb hr hlocks (by unfold jWo; rw [if_neg (fun z => z.1 c_1), if_neg c_2, show N_n N = i by omega]) dX3_waysOn_104
      · skip
        have hlt : i < N_n N := zlt (by have := hI; have := hN16; omega) (by have := hN16; omega) c_3
        refine lv_iload hx hb dX3_waysOn_70 (lv_at hl 4 rfl) ?_
        refine lv_iload hx hb dX3_waysOn_72 (lv_at hl 6 rfl) ?_
        refine ro_SN (As := [.int (nI i)]) (rest := [.int (jEx pb x k)]) ⟨hx, hb, hml, hown, hts⟩ (c_X9_bitOf l D cI cZ  (nI i)) (cw_X3_77 hts rfl rfl hK ⟨Nat.le_of_ble_eq_true rfl, Nat.le_of_ble_eq_true rfl⟩) hK P_nil rfl hl.1 rfl (Nat.le_of_ble_eq_true rfl) dX3_waysOn_74 ⟨Nat.zero_le _, Nat.zero_le _⟩ ?_
        refine lv_iand hx hb dX3_waysOn_77 ?_
        refine lv_if_eq (tgt := 96) hx hb dX3_waysOn_78 (by decide) (fun c_4 => ?_) (fun c_4 => ?_)
        · skip
          have hl : lv_has ls 8 [(0, .ref (a 28)), (1, .int t), (2, .int x), (3, .int k), (5, .int (jEx pb x k)), (6, .int (jWs N pb wy t x k (i + 1))), (7, .int (nI i))] := by rw [show jWs N pb wy t x k (i + 1) = (jWs N pb wy t x k i) from by rw [jWs]; first | rw [if_pos c_4] | rw [if_neg c_4]]; exact hl
          refine lv_iinc (v := (nI (i + 1))) (lv' := [(7, .int (nI (i + 1))), (0, .ref (a 28)), (1, .int t), (2, .int x), (3, .int k), (5, .int (jEx pb x k)), (6, .int (jWs N pb wy t x k (i + 1)))]) hx hb dX3_waysOn_96 hl (k := 6) rfl (nI_add i 1) (by decide) rfl (fun ls hl => ?_)
          refine lv_goto (tgt := 58) hx hb dX3_waysOn_99 (by decide) ?_
          exact ih_58 (i + 1) ls (show (i + 1) ≤ N_n N from hlt) (show N_n N - (i + 1) < N_n N - i from by omega) (show lv_has ls 8 [(0, .ref (a 28)), (1, .int t), (2, .int x), (3, .int k), (5, .int (jEx pb x k)), (6, .int (jWs N pb wy t x k (i + 1))), (7, .int (nI (i + 1)))] from lv_sub hl [1, 2, 3, 4, 5, 6, 0] rfl)
        · skip
          refine lv_iload hx hb dX3_waysOn_81 (lv_at hl 5 rfl) ?_
          refine lv_aload_n hx hb dX3_waysOn_83 rfl (lv_at hl 0 rfl) ?_
          refine lv_iload_n hx hb dX3_waysOn_84 rfl (lv_at hl 1 rfl) ?_
          refine lv_iconst (v := 1) hx hb dX3_waysOn_85 (by decide) ?_
          refine lv_iadd hx hb dX3_waysOn_86 ?_
          refine lv_iload_n hx hb dX3_waysOn_87 rfl (lv_at hl 2 rfl) ?_
          refine lv_iload hx hb dX3_waysOn_88 (lv_at hl 6 rfl) ?_
          refine ro_V (As := [.int (t + 1), .int x, .int (nI i)]) (rest := [.int (jWs N pb wy t x k i)]) ⟨hx, hb, hml, hown, hts⟩ (c_X3_waysBehind l D cI cZ a o wy ho8 N pb hN16 (t + 1) x (nI i)) (cw_X3_80 hts rfl rfl ⟨Nat.le_of_ble_eq_true rfl, Nat.le_of_ble_eq_true rfl⟩) hK (hP.sub [0, 1, 2, 3, 4, 20, 21, 22, 23, 24, 25, 26, 27, 28] rfl) (ci := 3) rfl rfl rfl hl.1 rfl (Nat.le_of_ble_eq_true rfl) dX3_waysOn_90 ⟨Nat.zero_le _, Nat.zero_le _⟩ ?_
          refine lv_iadd hx hb dX3_waysOn_93 ?_
          refine lv_istore (lv' := [(6, .int ((jWs N pb wy t x k i) + (rg 256 wy ((t + 1) * 32 + jArc N x (nI i))))), (0, .ref (a 28)), (1, .int t), (2, .int x), (3, .int k), (5, .int (jEx pb x k)), (7, .int (nI i))]) hx hb dX3_waysOn_94 hl (by decide) rfl (fun ls hl => ?_)
          have hl : lv_has ls 8 [(6, .int (jWs N pb wy t x k (i + 1))), (0, .ref (a 28)), (1, .int t), (2, .int x), (3, .int k), (5, .int (jEx pb x k)), (7, .int (nI i))] := by rw [show jWs N pb wy t x k (i + 1) = ((jWs N pb wy t x k i) + (rg 256 wy ((t + 1) * 32 + jArc N x (nI i)))) from by rw [jWs]; first | rw [if_pos c_4] | rw [if_neg c_4]]; exact hl
          refine lv_iinc (v := (nI (i + 1))) (lv' := [(7, .int (nI (i + 1))), (6, .int (jWs N pb wy t x k (i + 1))), (0, .ref (a 28)), (1, .int t), (2, .int x), (3, .int k), (5, .int (jEx pb x k))]) hx hb dX3_waysOn_96 hl (k := 6) rfl (nI_add i 1) (by decide) rfl (fun ls hl => ?_)
          refine lv_goto (tgt := 58) hx hb dX3_waysOn_99 (by decide) ?_
          exact ih_58 (i + 1) ls (show (i + 1) ≤ N_n N from hlt) (show N_n N - (i + 1) < N_n N - i from by omega) (show lv_has ls 8 [(0, .ref (a 28)), (1, .int t), (2, .int x), (3, .int k), (5, .int (jEx pb x k)), (6, .int (jWs N pb wy t x k (i + 1))), (7, .int (nI (i + 1)))] from lv_sub hl [2, 3, 4, 5, 6, 1, 0] rfl)
    · skip
      refine lv_iconst (v := 1) hx hb dX3_waysOn_42 (by decide) ?_
      exact ro_iret hx hb hr hlocks (by unfold jWo; rw [if_neg (fun z => z.1 c_1), if_pos c_2]) dX3_waysOn_43
  · skip
    refine lv_iload hx hb dX3_waysOn_16 (lv_at hl 0 rfl) ?_
    refine lv_aload_n hx hb dX3_waysOn_18 rfl (lv_at hl 1 rfl) ?_
    refine va_get (D := D) (ci := 3) (v := .ref (a 10)) (C := RX3) (T := TX3) (N := 4) hx hb hts hin3 hown hK.1 hP 0 rfl rfl 1 (by decide) (hts _ fl_X3_33) (fun _ h9 => h9) rfl dX3_waysOn_19 ?_
    refine lv_iload_n hx hb dX3_waysOn_22 rfl (lv_at hl 3 rfl) ?_
    refine lv_iload_n hx hb dX3_waysOn_23 rfl (lv_at hl 4 rfl) ?_
    refine ro_V (As := [.int x, .int k]) (rest := [.int (rg (o.1) (o.2) t)]) ⟨hx, hb, hml, hown, hts⟩ (c_X6_kindsSeen l D cI cZ a S sb q hS24 N pb hN16 x k) (cw_X3_68 hts rfl rfl ⟨Nat.le_of_ble_eq_true rfl, Nat.le_of_ble_eq_true rfl⟩) hK (hP.sub [5, 6, 7, 8, 9, 10, 11, 12, 13, 14, 15, 16, 17, 18, 19, 20, 21, 22, 23, 24, 25, 26, 27, 28] rfl) (ci := 6) rfl rfl rfl hl.1 rfl (Nat.le_of_ble_eq_true rfl) dX3_waysOn_24 ⟨Nat.zero_le _, Nat.zero_le _⟩ ?_
    refine lv_icmp_eq (tgt := 32) hx hb dX3_waysOn_27 (by decide) (fun c_5 => ?_) (fun c_5 => ?_)
    · skip
      refine lv_iload_n hx hb dX3_waysOn_32 rfl (lv_at hl 2 rfl) ?_
      refine lv_aload_n hx hb dX3_waysOn_33 rfl (lv_at hl 1 rfl) ?_
      refine ro_V (As := []) (rest := [.int t]) ⟨hx, hb, hml, hown, hts⟩ (c_X3_noteCount l D cI cZ a o wy ho8) (cw_X3_48 hts rfl rfl ⟨Nat.le_of_ble_eq_true rfl, Nat.le_of_ble_eq_true rfl⟩) hK (hP.sub [0, 1, 2, 3, 4] rfl) (ci := 3) rfl rfl rfl hl.1 rfl (Nat.le_of_ble_eq_true rfl) dX3_waysOn_34 ⟨Nat.zero_le _, Nat.zero_le _⟩ ?_
      refine lv_iconst (v := 1) hx hb dX3_waysOn_37 (by decide) ?_
      refine lv_isub hx hb dX3_waysOn_38 ?_
      refine lv_icmp_ne (tgt := 44) hx hb dX3_waysOn_39 (by decide) (fun c_6 => ?_) (fun c_6 => ?_)
      · skip
        refine lv_aload_n hx hb dX3_waysOn_44 rfl (lv_at hl 1 rfl) ?_
        refine lv_iload_n hx hb dX3_waysOn_45 rfl (lv_at hl 3 rfl) ?_
        refine lv_iload_n hx hb dX3_waysOn_46 rfl (lv_at hl 4 rfl) ?_
        refine ro_V (As := [.int x, .int k]) (rest := []) ⟨hx, hb, hml, hown, hts⟩ (c_X3_exitsFrom l D cI cZ a o wy ho8 N pb hN16 x k) (cw_X3_74 hts rfl rfl ⟨Nat.le_of_ble_eq_true rfl, Nat.le_of_ble_eq_true rfl⟩) hK (hP.sub [0, 1, 2, 3, 4, 20, 21, 22, 23, 24, 25, 26, 27, 28] rfl) (ci := 3) rfl rfl rfl hl.1 rfl (Nat.le_of_ble_eq_true rfl) dX3_waysOn_47 ⟨Nat.zero_le _, Nat.zero_le _⟩ ?_
        refine lv_istore (lv' := [(5, .int (jEx pb x k)), (4, .int (rg (o.1) (o.2) t)), (0, .ref (a 28)), (1, .int t), (2, .int x), (3, .int k)]) hx hb dX3_waysOn_50 hl (by decide) rfl (fun ls hl => ?_)
        refine lv_iconst (v := 0) hx hb dX3_waysOn_52 (by decide) ?_
        refine lv_istore (lv' := [(6, .int 0), (5, .int (jEx pb x k)), (4, .int (rg (o.1) (o.2) t)), (0, .ref (a 28)), (1, .int t), (2, .int x), (3, .int k)]) hx hb dX3_waysOn_53 hl (by decide) rfl (fun ls hl => ?_)
        refine lv_iconst (v := 0) hx hb dX3_waysOn_55 (by decide) ?_
        refine lv_istore (lv' := [(7, .int 0), (6, .int 0), (5, .int (jEx pb x k)), (4, .int (rg (o.1) (o.2) t)), (0, .ref (a 28)), (1, .int t), (2, .int x), (3, .int k)]) hx hb dX3_waysOn_56 hl (by decide) rfl (fun ls hl => ?_)
        refine w_loop (α := Nat) (fun a9 => a9 ≤ N_n N) (fun a9 => N_n N - a9) (fun a9 => [(0, .ref (a 28)), (1, .int t), (2, .int x), (3, .int k), (5, .int (jEx pb x k)), (6, .int (jWs N pb wy t x k a9)), (7, .int (nI a9))]) 58 8 ?_ 0 (Nat.zero_le _) (show lv_has ls 8 [(0, .ref (a 28)), (1, .int t), (2, .int x), (3, .int k), (5, .int (jEx pb x k)), (6, .int (jWs N pb wy t x k 0)), (7, .int (nI 0))] from lv_sub hl [4, 5, 6, 7, 2, 1, 0] rfl)
        intro a9 ls hI hl ih_58
        obtain ⟨i, rfl⟩ : ∃ z, z = a9 := ⟨a9, rfl⟩
        have hI : i ≤ N_n N := hI
        have hl : lv_has ls 8 [(0, .ref (a 28)), (1, .int t), (2, .int x), (3, .int k), (5, .int (jEx pb x k)), (6, .int (jWs N pb wy t x k i)), (7, .int (nI i))] := hl
        refine lv_iload hx hb dX3_waysOn_58 (lv_at hl 6 rfl) ?_
        refine lv_aload_n hx hb dX3_waysOn_60 rfl (lv_at hl 0 rfl) ?_
        refine va_get (D := D) (ci := 3) (v := .ref (a 1)) (C := RX3) (T := TX3) (N := 4) hx hb hts hin3 hown hK.1 hP 0 rfl rfl 0 (by decide) (hts _ fl_X3_29) (fun _ h9 => h9) rfl dX3_waysOn_61 ?_
        refine ro_V (As := []) (rest := [.int (nI i)]) ⟨hx, hb, hml, hown, hts⟩ (c_X2_pathCount l D cI cZ a N pb hN16) (cw_X3_51 hts rfl rfl ⟨Nat.le_of_ble_eq_true rfl, Nat.le_of_ble_eq_true rfl⟩) hK (hP.sub [20, 21, 22, 23, 24, 25, 26, 27, 28] rfl) (ci := 2) rfl rfl rfl hl.1 rfl (Nat.le_of_ble_eq_true rfl) dX3_waysOn_64 ⟨Nat.zero_le _, Nat.zero_le _⟩ ?_
        refine lv_icmp_ge (tgt := 102) hx hb dX3_waysOn_67 (by decide) (fun c_7 => ?_) (fun c_7 => ?_)
        · skip
          have hge : N_n N ≤ i := zge (by have := hI; have := hN16; omega) (by have := hN16; omega) c_7
          refine lv_iload hx hb dX3_waysOn_102 (lv_at hl 5 rfl) ?_
          exact ro_iret hx hb hr hlocks (by unfold jWo; rw [if_neg (fun z => z.2 c_5), if_neg c_6, show N_n N = i by omega]) dX3_waysOn_104
        · skip
          have hlt : i < N_n N := zlt (by have := hI; have := hN16; omega) (by have := hN16; omega) c_7
          refine lv_iload hx hb dX3_waysOn_70 (lv_at hl 4 rfl) ?_
          refine lv_iload hx hb dX3_waysOn_72 (lv_at hl 6 rfl) ?_
          refine ro_SN (As := [.int (nI i)]) (rest := [.int (jEx pb x k)]) ⟨hx, hb, hml, hown, hts⟩ (c_X9_bitOf l D cI cZ  (nI i)) (cw_X3_77 hts rfl rfl hK ⟨Nat.le_of_ble_eq_true rfl, Nat.le_of_ble_eq_true rfl⟩) hK P_nil rfl hl.1 rfl (Nat.le_of_ble_eq_true rfl) dX3_waysOn_74 ⟨Nat.zero_le _, Nat.zero_le _⟩ ?_
          refine lv_iand hx hb dX3_waysOn_77 ?_
          refine lv_if_eq (tgt := 96) hx hb dX3_waysOn_78 (by decide) (fun c_8 => ?_) (fun c_8 => ?_)
          · skip
            have hl : lv_has ls 8 [(0, .ref (a 28)), (1, .int t), (2, .int x), (3, .int k), (5, .int (jEx pb x k)), (6, .int (jWs N pb wy t x k (i + 1))), (7, .int (nI i))] := by rw [show jWs N pb wy t x k (i + 1) = (jWs N pb wy t x k i) from by rw [jWs]; first | rw [if_pos c_8] | rw [if_neg c_8]]; exact hl
            refine lv_iinc (v := (nI (i + 1))) (lv' := [(7, .int (nI (i + 1))), (0, .ref (a 28)), (1, .int t), (2, .int x), (3, .int k), (5, .int (jEx pb x k)), (6, .int (jWs N pb wy t x k (i + 1)))]) hx hb dX3_waysOn_96 hl (k := 6) rfl (nI_add i 1) (by decide) rfl (fun ls hl => ?_)
            refine lv_goto (tgt := 58) hx hb dX3_waysOn_99 (by decide) ?_
            exact ih_58 (i + 1) ls (show (i + 1) ≤ N_n N from hlt) (show N_n N - (i + 1) < N_n N - i from by omega) (show lv_has ls 8 [(0, .ref (a 28)), (1, .int t), (2, .int x), (3, .int k), (5, .int (jEx pb x k)), (6, .int (jWs N pb wy t x k (i + 1))), (7, .int (nI (i + 1)))] from lv_sub hl [1, 2, 3, 4, 5, 6, 0] rfl)
          · skip
            refine lv_iload hx hb dX3_waysOn_81 (lv_at hl 5 rfl) ?_
            refine lv_aload_n hx hb dX3_waysOn_83 rfl (lv_at hl 0 rfl) ?_
            refine lv_iload_n hx hb dX3_waysOn_84 rfl (lv_at hl 1 rfl) ?_
            refine lv_iconst (v := 1) hx hb dX3_waysOn_85 (by decide) ?_
            refine lv_iadd hx hb dX3_waysOn_86 ?_
            refine lv_iload_n hx hb dX3_waysOn_87 rfl (lv_at hl 2 rfl) ?_
            refine lv_iload hx hb dX3_waysOn_88 (lv_at hl 6 rfl) ?_
            refine ro_V (As := [.int (t + 1), .int x, .int (nI i)]) (rest := [.int (jWs N pb wy t x k i)]) ⟨hx, hb, hml, hown, hts⟩ (c_X3_waysBehind l D cI cZ a o wy ho8 N pb hN16 (t + 1) x (nI i)) (cw_X3_80 hts rfl rfl ⟨Nat.le_of_ble_eq_true rfl, Nat.le_of_ble_eq_true rfl⟩) hK (hP.sub [0, 1, 2, 3, 4, 20, 21, 22, 23, 24, 25, 26, 27, 28] rfl) (ci := 3) rfl rfl rfl hl.1 rfl (Nat.le_of_ble_eq_true rfl) dX3_waysOn_90 ⟨Nat.zero_le _, Nat.zero_le _⟩ ?_
            refine lv_iadd hx hb dX3_waysOn_93 ?_
            refine lv_istore (lv' := [(6, .int ((jWs N pb wy t x k i) + (rg 256 wy ((t + 1) * 32 + jArc N x (nI i))))), (0, .ref (a 28)), (1, .int t), (2, .int x), (3, .int k), (5, .int (jEx pb x k)), (7, .int (nI i))]) hx hb dX3_waysOn_94 hl (by decide) rfl (fun ls hl => ?_)
            have hl : lv_has ls 8 [(6, .int (jWs N pb wy t x k (i + 1))), (0, .ref (a 28)), (1, .int t), (2, .int x), (3, .int k), (5, .int (jEx pb x k)), (7, .int (nI i))] := by rw [show jWs N pb wy t x k (i + 1) = ((jWs N pb wy t x k i) + (rg 256 wy ((t + 1) * 32 + jArc N x (nI i)))) from by rw [jWs]; first | rw [if_pos c_8] | rw [if_neg c_8]]; exact hl
            refine lv_iinc (v := (nI (i + 1))) (lv' := [(7, .int (nI (i + 1))), (6, .int (jWs N pb wy t x k (i + 1))), (0, .ref (a 28)), (1, .int t), (2, .int x), (3, .int k), (5, .int (jEx pb x k))]) hx hb dX3_waysOn_96 hl (k := 6) rfl (nI_add i 1) (by decide) rfl (fun ls hl => ?_)
            refine lv_goto (tgt := 58) hx hb dX3_waysOn_99 (by decide) ?_
            exact ih_58 (i + 1) ls (show (i + 1) ≤ N_n N from hlt) (show N_n N - (i + 1) < N_n N - i from by omega) (show lv_has ls 8 [(0, .ref (a 28)), (1, .int t), (2, .int x), (3, .int k), (5, .int (jEx pb x k)), (6, .int (jWs N pb wy t x k (i + 1))), (7, .int (nI (i + 1)))] from lv_sub hl [2, 3, 4, 5, 6, 1, 0] rfl)
      · skip
        refine lv_iconst (v := 1) hx hb dX3_waysOn_42 (by decide) ?_
        exact ro_iret hx hb hr hlocks (by unfold jWo; rw [if_neg (fun z => z.2 c_5), if_pos c_6]) dX3_waysOn_43
    · skip
      refine lv_iconst (v := 0) hx hb dX3_waysOn_30 (by decide) ?_
      exact ro_iret hx hb hr hlocks (by unfold jWo; rw [if_pos ⟨c_1, c_5⟩]) dX3_waysOn_31

set_option maxHeartbeats 4000000 in
set_option maxRecDepth 100000 in
theorem c_X3_pathOn (l : Launch) (D : va_G) (cI cZ : ClassId) (a : Nat → Nat) (o : TO) (wy : Nat → Int32) (ho8 : o.1 ≤ 8) (N : TN) (pb : Nat → Int32) (hN16 : N_n N ≤ 16) (t x k : Int32) : RO l D cI cZ yX3_pathOn wyX3_pathOn ({ frames := 4, cells := 0, slots := 0, locals := 86 } : Room) [.ref (a 28), .int t, .int x, .int k] (wNt a cI o wy ++ wNet a cI N pb) (jPo N pb wy t x k) := by
  refine Met.ofW (cc := cX3_pathOn) (maxL := 6) (ret := (some .int)) (by decide) rfl ?_
  intro p e s m args below meth c s₁ B hml hv
  obtain ⟨rfl, hK, hP⟩ := hv
  have hx := B.exec
  have hb := B.bytes
  have hr := B.returns
  have hts0 := atoms_spec (ws := wyX3_pathOn) B.pre
  have hts : ∀ w ∈ big, w.before _ s = true := fun w h => hts0 w (List.mem_cons_of_mem _ h)
  have hown : s.vm.findClass RX3 = some m.cls := findClass_of_methodNamed B.named
  have hlocks := B.notSynchronized
  have hl := lv_entry ([.ref (a 28), .int t, .int x, .int k]) (n := 6) (Nat.le_of_ble_eq_true rfl)
  rw [lg_entry_eq]
  generalize (lg_sl ([.ref (a 28), .int t, .int x, .int k]) ++ List.replicate (6 - (lg_sl ([.ref (a 28), .int t, .int x, .int k])).length) Slot.unset).toArray = ls at hl ⊢
  have hl : lv_has ls 6 [(0, .ref (a 28)), (1, .int t), (2, .int x), (3, .int k)] := hl
  refine lv_aload_n hx hb dX3_pathOn_0 rfl (lv_at hl 0 rfl) ?_
  refine lv_iload_n hx hb dX3_pathOn_1 rfl (lv_at hl 2 rfl) ?_
  refine lv_iload_n hx hb dX3_pathOn_2 rfl (lv_at hl 3 rfl) ?_
  refine ro_V (As := [.int x, .int k]) (rest := []) ⟨hx, hb, hml, hown, hts⟩ (c_X3_exitsFrom l D cI cZ a o wy ho8 N pb hN16 x k) (cw_X3_74 hts rfl rfl ⟨Nat.le_of_ble_eq_true rfl, Nat.le_of_ble_eq_true rfl⟩) hK hP (ci := 3) rfl rfl rfl hl.1 rfl (Nat.le_of_ble_eq_true rfl) dX3_pathOn_3 ⟨Nat.zero_le _, Nat.zero_le _⟩ ?_
  refine lv_istore (lv' := [(4, .int (jEx pb x k)), (0, .ref (a 28)), (1, .int t), (2, .int x), (3, .int k)]) hx hb dX3_pathOn_6 hl (by decide) rfl (fun ls hl => ?_)
  refine lv_iconst (v := 0) hx hb dX3_pathOn_8 (by decide) ?_
  refine lv_istore (lv' := [(5, .int 0), (4, .int (jEx pb x k)), (0, .ref (a 28)), (1, .int t), (2, .int x), (3, .int k)]) hx hb dX3_pathOn_9 hl (by decide) rfl (fun ls hl => ?_)
  refine w_loop (α := Nat) (fun a9 => a9 ≤ N_n N ∧ anyB (fun i => decide (¬ (jEx pb x k &&& zbt (nI i)) = 0 ∧ 0 < rg 256 wy (t * 32 + jArc N x (nI i)))) a9 = false) (fun a9 => N_n N - a9) (fun a9 => [(0, .ref (a 28)), (1, .int t), (2, .int x), (3, .int k), (4, .int (jEx pb x k)), (5, .int (nI a9))]) 11 6 ?_ 0 (⟨Nat.zero_le _, rfl⟩) (show lv_has ls 6 [(0, .ref (a 28)), (1, .int t), (2, .int x), (3, .int k), (4, .int (jEx pb x k)), (5, .int (nI 0))] from lv_sub hl [2, 3, 4, 5, 1, 0] rfl)
  intro a9 ls hI hl ih_11
  obtain ⟨i, rfl⟩ : ∃ z, z = a9 := ⟨a9, rfl⟩
  have hI : i ≤ N_n N ∧ anyB (fun i => decide (¬ (jEx pb x k &&& zbt (nI i)) = 0 ∧ 0 < rg 256 wy (t * 32 + jArc N x (nI i)))) i = false := hI
  have hl : lv_has ls 6 [(0, .ref (a 28)), (1, .int t), (2, .int x), (3, .int k), (4, .int (jEx pb x k)), (5, .int (nI i))] := hl
  refine lv_iload hx hb dX3_pathOn_11 (lv_at hl 5 rfl) ?_
  refine lv_aload_n hx hb dX3_pathOn_13 rfl (lv_at hl 0 rfl) ?_
  refine va_get (D := D) (ci := 3) (v := .ref (a 1)) (C := RX3) (T := TX3) (N := 4) hx hb hts hin3 hown hK.1 hP 0 rfl rfl 0 (by decide) (hts _ fl_X3_29) (fun _ h9 => h9) rfl dX3_pathOn_14 ?_
  refine ro_V (As := []) (rest := [.int (nI i)]) ⟨hx, hb, hml, hown, hts⟩ (c_X2_pathCount l D cI cZ a N pb hN16) (cw_X3_51 hts rfl rfl ⟨Nat.le_of_ble_eq_true rfl, Nat.le_of_ble_eq_true rfl⟩) hK (hP.sub [5, 6, 7, 8, 9, 10, 11, 12, 13] rfl) (ci := 2) rfl rfl rfl hl.1 rfl (Nat.le_of_ble_eq_true rfl) dX3_pathOn_17 ⟨Nat.zero_le _, Nat.zero_le _⟩ ?_
  refine lv_icmp_ge (tgt := 54) hx hb dX3_pathOn_20 (by decide) (fun c_1 => ?_) (fun c_1 => ?_)
  · skip
    have hge : N_n N ≤ i := zge (by have := hI.1; have := hN16; omega) (by have := hN16; omega) c_1
    refine lv_iconst (v := (-1)) hx hb dX3_pathOn_54 (by decide) ?_
    exact ro_iret hx hb hr hlocks (by unfold jPo; rw [show N_n N = i by have := hI.1; omega]; exact (fstB_none i hI.2).symm) dX3_pathOn_55
  · skip
    have hlt : i < N_n N := zlt (by have := hI.1; have := hN16; omega) (by have := hN16; omega) c_1
    refine lv_iload hx hb dX3_pathOn_23 (lv_at hl 4 rfl) ?_
    refine lv_iload hx hb dX3_pathOn_25 (lv_at hl 5 rfl) ?_
    refine ro_SN (As := [.int (nI i)]) (rest := [.int (jEx pb x k)]) ⟨hx, hb, hml, hown, hts⟩ (c_X9_bitOf l D cI cZ  (nI i)) (cw_X3_77 hts rfl rfl hK ⟨Nat.le_of_ble_eq_true rfl, Nat.le_of_ble_eq_true rfl⟩) hK P_nil rfl hl.1 rfl (Nat.le_of_ble_eq_true rfl) dX3_pathOn_27 ⟨Nat.zero_le _, Nat.zero_le _⟩ ?_
    refine lv_iand hx hb dX3_pathOn_30 ?_
    refine lv_if_eq (tgt := 48) hx hb dX3_pathOn_31 (by decide) (fun c_2 => ?_) (fun c_2 => ?_)
    · skip
      refine lv_iinc (v := (nI (i + 1))) (lv' := [(5, .int (nI (i + 1))), (0, .ref (a 28)), (1, .int t), (2, .int x), (3, .int k), (4, .int (jEx pb x k))]) hx hb dX3_pathOn_48 hl (k := 5) rfl (nI_add i 1) (by decide) rfl (fun ls hl => ?_)
      refine lv_goto (tgt := 11) hx hb dX3_pathOn_51 (by decide) ?_
      exact ih_11 (i + 1) ls (show (i + 1) ≤ N_n N ∧ anyB (fun i => decide (¬ (jEx pb x k &&& zbt (nI i)) = 0 ∧ 0 < rg 256 wy (t * 32 + jArc N x (nI i)))) (i + 1) = false from ⟨hlt, by rw [anyB, hI.2, Bool.false_or, decide_eq_false_iff_not]; exact fun z => z.1 c_2⟩) (show N_n N - (i + 1) < N_n N - i from by omega) (show lv_has ls 6 [(0, .ref (a 28)), (1, .int t), (2, .int x), (3, .int k), (4, .int (jEx pb x k)), (5, .int (nI (i + 1)))] from lv_sub hl [1, 2, 3, 4, 5, 0] rfl)
    · skip
      refine lv_aload_n hx hb dX3_pathOn_34 rfl (lv_at hl 0 rfl) ?_
      refine lv_iload_n hx hb dX3_pathOn_35 rfl (lv_at hl 1 rfl) ?_
      refine lv_iload_n hx hb dX3_pathOn_36 rfl (lv_at hl 2 rfl) ?_
      refine lv_iload hx hb dX3_pathOn_37 (lv_at hl 5 rfl) ?_
      refine ro_V (As := [.int t, .int x, .int (nI i)]) (rest := []) ⟨hx, hb, hml, hown, hts⟩ (c_X3_waysBehind l D cI cZ a o wy ho8 N pb hN16 t x (nI i)) (cw_X3_80 hts rfl rfl ⟨Nat.le_of_ble_eq_true rfl, Nat.le_of_ble_eq_true rfl⟩) hK hP (ci := 3) rfl rfl rfl hl.1 rfl (Nat.le_of_ble_eq_true rfl) dX3_pathOn_39 ⟨Nat.zero_le _, Nat.zero_le _⟩ ?_
      refine lv_if_le (tgt := 48) hx hb dX3_pathOn_42 (by decide) (fun c_3 => ?_) (fun c_3 => ?_)
      · skip
        refine lv_iinc (v := (nI (i + 1))) (lv' := [(5, .int (nI (i + 1))), (0, .ref (a 28)), (1, .int t), (2, .int x), (3, .int k), (4, .int (jEx pb x k))]) hx hb dX3_pathOn_48 hl (k := 5) rfl (nI_add i 1) (by decide) rfl (fun ls hl => ?_)
        refine lv_goto (tgt := 11) hx hb dX3_pathOn_51 (by decide) ?_
        exact ih_11 (i + 1) ls (show (i + 1) ≤ N_n N ∧ anyB (fun i => decide (¬ (jEx pb x k &&& zbt (nI i)) = 0 ∧ 0 < rg 256 wy (t * 32 + jArc N x (nI i)))) (i + 1) = false from ⟨hlt, by rw [anyB, hI.2, Bool.false_or, decide_eq_false_iff_not]; exact fun z => absurd z.2 (Int32.not_lt.mpr c_3)⟩) (show N_n N - (i + 1) < N_n N - i from by omega) (show lv_has ls 6 [(0, .ref (a 28)), (1, .int t), (2, .int x), (3, .int k), (4, .int (jEx pb x k)), (5, .int (nI (i + 1)))] from lv_sub hl [1, 2, 3, 4, 5, 0] rfl)
      · skip
        refine lv_iload hx hb dX3_pathOn_45 (lv_at hl 5 rfl) ?_
        exact ro_iret hx hb hr hlocks (by unfold jPo; have h9 := fstB_at (k := i) (by omega) hI.2 (decide_eq_true ⟨c_2, Int32.not_le.mp c_3⟩) (N_n N - (i + 1)); rw [show i + 1 + (N_n N - (i + 1)) = N_n N by omega] at h9; exact h9.symm) dX3_pathOn_47

set_option maxHeartbeats 4000000 in
set_option maxRecDepth 100000 in
theorem c_X3_placeOnTheWay (l : Launch) (D : va_G) (cI cZ : ClassId) (a : Nat → Nat) (o : TO) (wy : Nat → Int32) (ho8 : o.1 ≤ 8) (N : TN) (pb : Nat → Int32) (hN16 : N_n N ≤ 16) (x i : Int32) : RO l D cI cZ yX3_placeOnTheWay wyX3_placeOnTheWay ({ frames := 5, cells := 0, slots := 0, locals := 111 } : Room) [.ref (a 28), .int x, .int i] (wNt a cI o wy ++ wNet a cI N pb) (jPw N pb o wy x i) := by
  refine Met.ofW (cc := cX3_placeOnTheWay) (maxL := 6) (ret := (some .int)) (by decide) rfl ?_
  intro p e s m args below meth c s₁ B hml hv
  obtain ⟨rfl, hK, hP⟩ := hv
  have hx := B.exec
  have hb := B.bytes
  have hr := B.returns
  have hts0 := atoms_spec (ws := wyX3_placeOnTheWay) B.pre
  have hts : ∀ w ∈ big, w.before _ s = true := fun w h => hts0 w (List.mem_cons_of_mem _ h)
  have hown : s.vm.findClass RX3 = some m.cls := findClass_of_methodNamed B.named
  have hlocks := B.notSynchronized
  have hl := lv_entry ([.ref (a 28), .int x, .int i]) (n := 6) (Nat.le_of_ble_eq_true rfl)
  rw [lg_entry_eq]
  generalize (lg_sl ([.ref (a 28), .int x, .int i]) ++ List.replicate (6 - (lg_sl ([.ref (a 28), .int x, .int i])).length) Slot.unset).toArray = ls at hl ⊢
  have hl : lv_has ls 6 [(0, .ref (a 28)), (1, .int x), (2, .int i)] := hl
  refine lv_iload_n hx hb dX3_placeOnTheWay_0 rfl (lv_at hl 2 rfl) ?_
  refine lv_if_lt (tgt := 12) hx hb dX3_placeOnTheWay_1 (by decide) (fun c_1 => ?_) (fun c_1 => ?_)
  · skip
    refine lv_iconst (v := (-1)) hx hb dX3_placeOnTheWay_12 (by decide) ?_
    exact ro_iret hx hb hr hlocks (by unfold jPw; (first | rw [if_pos c_1] | rw [if_neg c_1, if_pos (Int32.not_lt.mp c_1)])) dX3_placeOnTheWay_13
  · skip
    refine lv_iload_n hx hb dX3_placeOnTheWay_4 rfl (lv_at hl 2 rfl) ?_
    refine lv_aload_n hx hb dX3_placeOnTheWay_5 rfl (lv_at hl 0 rfl) ?_
    refine ro_V (As := []) (rest := [.int i]) ⟨hx, hb, hml, hown, hts⟩ (c_X3_noteCount l D cI cZ a o wy ho8) (cw_X3_48 hts rfl rfl ⟨Nat.le_of_ble_eq_true rfl, Nat.le_of_ble_eq_true rfl⟩) hK (hP.sub [0, 1, 2, 3, 4] rfl) (ci := 3) rfl rfl rfl hl.1 rfl (Nat.le_of_ble_eq_true rfl) dX3_placeOnTheWay_6 ⟨Nat.zero_le _, Nat.zero_le _⟩ ?_
    refine lv_icmp_lt (tgt := 14) hx hb dX3_placeOnTheWay_9 (by decide) (fun c_2 => ?_) (fun c_2 => ?_)
    · skip
      obtain ⟨ii, hii, hei⟩ := nI_of c_1
      have hio : ii < o.1 := by have h9 := c_2; rw [hei, nI_ltI hii (by omega)] at h9; exact h9
      have hR : jPw N pb o wy x i = jPg N pb wy ii 1 x (-1) := by unfold jPw; rw [if_neg c_1, if_neg (Int32.not_le.mpr c_2), hei, nI_cl hii]
      have hl : lv_has ls 6 [(0, .ref (a 28)), (1, .int x), (2, .int (nI ii))] := by rw [← hei]; exact hl
      refine lv_iload_n hx hb dX3_placeOnTheWay_14 rfl (lv_at hl 1 rfl) ?_
      refine lv_istore_n (lv' := [(3, .int x), (0, .ref (a 28)), (1, .int x), (2, .int (nI ii))]) hx hb dX3_placeOnTheWay_15 rfl hl (by decide) rfl (fun ls hl => ?_)
      refine lv_iconst (v := (-1)) hx hb dX3_placeOnTheWay_16 (by decide) ?_
      refine lv_istore (lv' := [(4, .int (-1)), (3, .int x), (0, .ref (a 28)), (1, .int x), (2, .int (nI ii))]) hx hb dX3_placeOnTheWay_17 hl (by decide) rfl (fun ls hl => ?_)
      refine lv_iconst (v := 1) hx hb dX3_placeOnTheWay_19 (by decide) ?_
      refine lv_istore (lv' := [(5, .int 1), (4, .int (-1)), (3, .int x), (0, .ref (a 28)), (1, .int x), (2, .int (nI ii))]) hx hb dX3_placeOnTheWay_20 hl (by decide) rfl (fun ls hl => ?_)
      refine w_loop (α := Nat × Int32 × Int32) (fun a9 => 1 ≤ a9.1 ∧ a9.1 ≤ ii + 1 ∧ jPg N pb wy (ii + 1 - a9.1) a9.1 a9.2.1 a9.2.2 = jPw N pb o wy x i) (fun a9 => ii + 1 - a9.1) (fun a9 => [(0, .ref (a 28)), (2, .int (nI ii)), (3, .int a9.2.1), (4, .int a9.2.2), (5, .int (nI a9.1))]) 22 6 ?_ (1, x, (-1)) (⟨by omega, by omega, by rw [hR]; rfl⟩) (show lv_has ls 6 [(0, .ref (a 28)), (2, .int (nI ii)), (3, .int x), (4, .int (-1)), (5, .int (nI 1))] from lv_sub hl [3, 5, 2, 1, 0] rfl)
      intro a9 ls hI hl ih_22
      obtain ⟨t, h, cm⟩ := a9
      have hI : 1 ≤ t ∧ t ≤ ii + 1 ∧ jPg N pb wy (ii + 1 - t) t h cm = jPw N pb o wy x i := hI
      have hl : lv_has ls 6 [(0, .ref (a 28)), (2, .int (nI ii)), (3, .int h), (4, .int cm), (5, .int (nI t))] := hl
      refine lv_iload hx hb dX3_placeOnTheWay_22 (lv_at hl 4 rfl) ?_
      refine lv_iload_n hx hb dX3_placeOnTheWay_24 rfl (lv_at hl 1 rfl) ?_
      refine lv_icmp_gt (tgt := 64) hx hb dX3_placeOnTheWay_25 (by decide) (fun c_3 => ?_) (fun c_3 => ?_)
      · skip
        have hge : ii < t := (nI_ltI (by omega) (by omega)).mp c_3
        refine lv_iload_n hx hb dX3_placeOnTheWay_64 rfl (lv_at hl 2 rfl) ?_
        exact ro_iret hx hb hr hlocks (by rw [← hI.2.2, show ii + 1 - t = 0 by omega, jPg]) dX3_placeOnTheWay_65
      · skip
        have hle : t ≤ ii := by have h9 := Int32.not_lt.mp c_3; rw [nI_leI (by omega) (by omega)] at h9; exact h9
        obtain ⟨n9, hn9⟩ : ∃ n9, ii + 1 - t = n9 + 1 := ⟨ii - t, by omega⟩
        refine lv_aload_n hx hb dX3_placeOnTheWay_28 rfl (lv_at hl 0 rfl) ?_
        refine lv_iload hx hb dX3_placeOnTheWay_29 (lv_at hl 4 rfl) ?_
        refine lv_iload_n hx hb dX3_placeOnTheWay_31 rfl (lv_at hl 2 rfl) ?_
        refine lv_iload hx hb dX3_placeOnTheWay_32 (lv_at hl 3 rfl) ?_
        refine ro_V (As := [.int (nI t), .int h, .int cm]) (rest := []) ⟨hx, hb, hml, hown, hts⟩ (c_X3_pathOn l D cI cZ a o wy ho8 N pb hN16 (nI t) h cm) (cw_X3_89 hts rfl rfl ⟨Nat.le_of_ble_eq_true rfl, Nat.le_of_ble_eq_true rfl⟩) hK hP (ci := 3) rfl rfl rfl hl.1 rfl (Nat.le_of_ble_eq_true rfl) dX3_placeOnTheWay_34 ⟨Nat.zero_le _, Nat.zero_le _⟩ ?_
        refine lv_istore (lv' := [(4, .int (jPo N pb wy (nI t) h cm)), (0, .ref (a 28)), (2, .int (nI ii)), (3, .int h), (5, .int (nI t))]) hx hb dX3_placeOnTheWay_37 hl (by decide) rfl (fun ls hl => ?_)
        refine lv_iload hx hb dX3_placeOnTheWay_39 (lv_at hl 0 rfl) ?_
        refine lv_iconst (v := (-1)) hx hb dX3_placeOnTheWay_41 (by decide) ?_
        refine lv_icmp_ne (tgt := 47) hx hb dX3_placeOnTheWay_42 (by decide) (fun c_4 => ?_) (fun c_4 => ?_)
        · skip
          refine lv_aload_n hx hb dX3_placeOnTheWay_47 rfl (lv_at hl 1 rfl) ?_
          refine va_get (D := D) (ci := 3) (v := .ref (a 1)) (C := RX3) (T := TX3) (N := 4) hx hb hts hin3 hown hK.1 hP 0 rfl rfl 0 (by decide) (hts _ fl_X3_29) (fun _ h9 => h9) rfl dX3_placeOnTheWay_48 ?_
          refine lv_iload_n hx hb dX3_placeOnTheWay_51 rfl (lv_at hl 3 rfl) ?_
          refine lv_iload hx hb dX3_placeOnTheWay_52 (lv_at hl 0 rfl) ?_
          refine ro_V (As := [.int h, .int (jPo N pb wy (nI t) h cm)]) (rest := []) ⟨hx, hb, hml, hown, hts⟩ (c_X2_otherEnd l D cI cZ a N pb hN16 h (jPo N pb wy (nI t) h cm)) (cw_X3_92 hts rfl rfl ⟨Nat.le_of_ble_eq_true rfl, Nat.le_of_ble_eq_true rfl⟩) hK (hP.sub [5, 6, 7, 8, 9, 10, 11, 12, 13] rfl) (ci := 2) rfl rfl rfl hl.1 rfl (Nat.le_of_ble_eq_true rfl) dX3_placeOnTheWay_54 ⟨Nat.zero_le _, Nat.zero_le _⟩ ?_
          refine lv_istore_n (lv' := [(3, .int (jOE N h (jPo N pb wy (nI t) h cm))), (4, .int (jPo N pb wy (nI t) h cm)), (0, .ref (a 28)), (2, .int (nI ii)), (5, .int (nI t))]) hx hb dX3_placeOnTheWay_57 rfl hl (by decide) rfl (fun ls hl => ?_)
          refine lv_iinc (v := (nI (t + 1))) (lv' := [(5, .int (nI (t + 1))), (3, .int (jOE N h (jPo N pb wy (nI t) h cm))), (4, .int (jPo N pb wy (nI t) h cm)), (0, .ref (a 28)), (2, .int (nI ii))]) hx hb dX3_placeOnTheWay_58 hl (k := 4) rfl (nI_add t 1) (by decide) rfl (fun ls hl => ?_)
          refine lv_goto (tgt := 22) hx hb dX3_placeOnTheWay_61 (by decide) ?_
          exact ih_22 ((t + 1), (jOE N h (jPo N pb wy (nI t) h cm)), (jPo N pb wy (nI t) h cm)) ls (show 1 ≤ (t + 1) ∧ (t + 1) ≤ ii + 1 ∧ jPg N pb wy (ii + 1 - (t + 1)) (t + 1) (jOE N h (jPo N pb wy (nI t) h cm)) (jPo N pb wy (nI t) h cm) = jPw N pb o wy x i from ⟨by omega, by omega, by rw [← hI.2.2, show ii + 1 - (t + 1) = n9 by omega, hn9, jPg, if_neg c_4]⟩) (show ii + 1 - (t + 1) < ii + 1 - t from by omega) (show lv_has ls 6 [(0, .ref (a 28)), (2, .int (nI ii)), (3, .int (jOE N h (jPo N pb wy (nI t) h cm))), (4, .int (jPo N pb wy (nI t) h cm)), (5, .int (nI (t + 1)))] from lv_sub hl [3, 4, 1, 2, 0] rfl)
        · skip
          refine lv_iconst (v := (-1)) hx hb dX3_placeOnTheWay_45 (by decide) ?_
          exact ro_iret hx hb hr hlocks (by rw [← hI.2.2, hn9, jPg, if_pos c_4]) dX3_placeOnTheWay_46
    · skip
      refine lv_iconst (v := (-1)) hx hb dX3_placeOnTheWay_12 (by decide) ?_
      exact ro_iret hx hb hr hlocks (by unfold jPw; (first | rw [if_pos c_1] | rw [if_neg c_1, if_pos (Int32.not_lt.mp c_2)])) dX3_placeOnTheWay_13
