def jBf (fo : TF) (x y : Int32) : Bool := decide (rg fo.1 fo.2 x - rg fo.1 fo.2 y < 0 ∨ (rg fo.1 fo.2 x - rg fo.1 fo.2 y = 0 ∧ x < y))
def jTm (fo : TF) (be : Nat → Int32) (x : Int32) : Nat → Int32
  | 0 => rg fo.1 fo.2 x
  | b + 1 => if rg 5 be (nI b) = rg 5 be x ∧ jBf fo (nI b) x = true then jTm fo be x b + 2 * fo.2 b else jTm fo be x b
def jSm (fo : TF) (tr : Nat → Int32) (h : Int32) : Nat → Int32
  | 0 => 0
  | b + 1 => jSm fo tr h b + (if tr b = h then fo.2 b else 0)
def jLg (fo : TF) (tr : Nat → Int32) (h : Int32) : Nat → Int32
  | 0 => 0
  | b + 1 => if jLg fo tr h b < (if tr b = h then fo.2 b else 0) then (if tr b = h then fo.2 b else 0) else jLg fo tr h b
def jWm (fo : TF) (tr : Nat → Int32) : Nat → Int32
  | 0 => 0
  | h + 1 => if jWm fo tr h < 2 * jSm fo tr (nI h) fo.1 - jLg fo tr (nI h) fo.1 then 2 * jSm fo tr (nI h) fo.1 - jLg fo tr (nI h) fo.1 else jWm fo tr h
def jKt (tr be : Nat → Int32) : Nat → (Nat → Int32)
  | 0 => be
  | b + 1 => upd (jKt tr be b) b (tr b)
def jT0 (tr : Nat → Int32) : Nat → (Nat → Int32)
  | 0 => tr
  | b + 1 => upd (jT0 tr b) b 0
def jTn (h : Int32) : Nat → (Nat → Int32) → Int32 × (Nat → Int32)
  | 0, tr => (0, tr)
  | b + 1, tr => if tr b + 1 < h then (1, upd tr b (tr b + 1)) else jTn h b (upd tr b 0)
def jFb (fo : TF) (hh : Nat) : Nat → (Nat → Int32) → (Nat → Int32) → Int32 → (Nat → Int32) × (Nat → Int32) × Int32
  | 0, tr, be, le => (tr, be, le)
  | f + 1, tr, be, le => if (jTn (nI hh) fo.1 tr).1 = 0 then ((jTn (nI hh) fo.1 tr).2, be, le) else
    if jWm fo (jTn (nI hh) fo.1 tr).2 hh < le then jFb fo hh f (jTn (nI hh) fo.1 tr).2 (jKt (jTn (nI hh) fo.1 tr).2 be fo.1) (jWm fo (jTn (nI hh) fo.1 tr).2 hh) else jFb fo hh f (jTn (nI hh) fo.1 tr).2 be le
def jBs (fo : TF) (hh : Nat) (tr be : Nat → Int32) : (Nat → Int32) × (Nat → Int32) × Int32 := jFb fo hh 242 (jT0 tr fo.1) (jKt (jT0 tr fo.1) be fo.1) (jWm fo (jT0 tr fo.1) hh)
theorem jTn_01 (h : Int32) : ∀ n tr, (jTn h n tr).1 = 0 ∨ (jTn h n tr).1 = 1
  | 0, _ => Or.inl rfl
  | b + 1, tr => by
    rw [jTn]
    by_cases c : tr b + 1 < h
    · rw [if_pos c]; exact Or.inr rfl
    · rw [if_neg c]; exact jTn_01 h b _
theorem nar_01 {v : Int32} (h : v = 0 ∨ v = 1) : narrow .boolean (.int v) = .int v := by rcases h with h | h <;> rw [h] <;> rfl
set_option maxHeartbeats 4000000 in
set_option maxRecDepth 100000 in
theorem c_X1_branchCount (l : Launch) (D : va_G) (cI cZ : ClassId) (a : Nat → Nat) (fo : TF) (tr be : Nat → Int32) (hf5 : fo.1 ≤ 5) : RO l D cI cZ yX1_branchCount wyX1_branchCount ({ frames := 1, cells := 0, slots := 0, locals := 20 } : Room) [.ref (a 43)] (wFk a cI fo tr be) (nI fo.1) := by
  refine Met.ofW (cc := cX1_branchCount) (maxL := 1) (ret := (some .int)) (by decide) rfl ?_
  intro p e s m args below meth c s₁ B hml hv
  obtain ⟨rfl, hK, hP⟩ := hv
  have hx := B.exec
  have hb := B.bytes
  have hr := B.returns
  have hts0 := atoms_spec (ws := wyX1_branchCount) B.pre
  have hts : ∀ w ∈ big, w.before _ s = true := fun w h => hts0 w (List.mem_cons_of_mem _ h)
  have hown : s.vm.findClass RX1 = some m.cls := findClass_of_methodNamed B.named
  have hlocks := B.notSynchronized
  have hl := lv_entry ([.ref (a 43)]) (n := 1) (Nat.le_of_ble_eq_true rfl)
  rw [lg_entry_eq]
  generalize (lg_sl ([.ref (a 43)]) ++ List.replicate (1 - (lg_sl ([.ref (a 43)])).length) Slot.unset).toArray = ls at hl ⊢
  have hl : lv_has ls 1 [(0, .ref (a 43))] := hl
  refine lv_aload_n hx hb dX1_branchCount_0 rfl (lv_at hl 0 rfl) ?_
  refine va_get (D := D) (ci := 1) (v := .ref (a 44)) (C := RX1) (T := TX1) (N := 3) hx hb hts hin1 hown hK.1 hP 0 rfl rfl 0 (by decide) (hts _ fl_X1_14) (fun _ h9 => h9) rfl dX1_branchCount_1 ?_
  refine ro_V (As := []) (rest := []) ⟨hx, hb, hml, hown, hts⟩ (c_X5_size l D cI cZ (a 44) (a 45) 5 (fo.1) (fo.2) hf5 (by decide)) (cw_X1_28 hts rfl rfl ⟨Nat.le_of_ble_eq_true rfl, Nat.le_of_ble_eq_true rfl⟩) hK (hP.sub [1, 2] rfl) (ci := 5) rfl rfl rfl hl.1 rfl (Nat.le_of_ble_eq_true rfl) dX1_branchCount_4 ⟨Nat.zero_le _, Nat.zero_le _⟩ ?_
  exact ro_iret hx hb hr hlocks (rfl) dX1_branchCount_7

set_option maxHeartbeats 4000000 in
set_option maxRecDepth 100000 in
theorem c_X1_grow (l : Launch) (D : va_G) (cI cZ : ClassId) (a : Nat → Nat) (fo : TF) (tr be : Nat → Int32) (hf5 : fo.1 < 5) (v : Int32) : MI l D cI cZ yX1_grow wyX1_grow ({ frames := 1, cells := 0, slots := 0, locals := 21 } : Room) [.ref (a 43), .int v] (wFk a cI fo tr be) (fun r _ => r = nI (fo.1 + 1)) (fun (_ : Unit) => wFk a cI (fo.1 + 1, upd fo.2 fo.1 v) tr be) := by
  refine Met.ofW (cc := cX1_grow) (maxL := 2) (ret := (some .int)) (by decide) rfl ?_
  intro p e s m args below meth c s₁ B hml hv
  obtain ⟨rfl, hK, hP, hD0⟩ := hv
  have hx := B.exec
  have hb := B.bytes
  have hr := B.returns
  have hts0 := atoms_spec (ws := wyX1_grow) B.pre
  have hts : ∀ w ∈ big, w.before _ s = true := fun w h => hts0 w (List.mem_cons_of_mem _ h)
  have hown : s.vm.findClass RX1 = some m.cls := findClass_of_methodNamed B.named
  have hlocks := B.notSynchronized
  have hD := D_inW hD0
  have hS : va_S (inW (wFk a cI fo tr be)) s.heap s.heap [] := va_S.rf
  have hl := lv_entry ([.ref (a 43), .int v]) (n := 2) (Nat.le_of_ble_eq_true rfl)
  rw [lg_entry_eq]
  generalize (lg_sl ([.ref (a 43), .int v]) ++ List.replicate (2 - (lg_sl ([.ref (a 43), .int v])).length) Slot.unset).toArray = ls at hl ⊢
  have hl : lv_has ls 2 [(0, .ref (a 43)), (1, .int v)] := hl
  refine lv_aload_n hx hb dX1_grow_0 rfl (lv_at hl 0 rfl) ?_
  refine va_get (D := D) (ci := 1) (v := .ref (a 44)) (C := RX1) (T := TX1) (N := 3) hx hb hts hin1 hown hK.1 hP 0 rfl rfl 0 (by decide) (hts _ fl_X1_14) (fun _ h9 => h9) rfl dX1_grow_1 ?_
  refine lv_iload_n hx hb dX1_grow_4 rfl (lv_at hl 1 rfl) ?_
  refine mi_V2 (As := [.int v]) (rest := []) ⟨hx, hb, hml, hown, hts⟩ (c_X5_push l D cI cZ (a 44) (a 45) 5 (fo.1) (fo.2) hf5 (by decide) v) (cw_X1_32 hts rfl rfl ⟨Nat.le_of_ble_eq_true rfl, Nat.le_of_ble_eq_true rfl⟩) hK hP hD hS 7 rfl [1, 2] [0, 3, 4, 5, 6] (fun (_ : Unit) => ([((a 43), .inr (1, [.ref (a 44), .ref (a 46), .ref (a 48)])), ((a 44), .inr (5, [.ref (a 45), .int (nI ((fo.1) + 1))])), ((a 45), .inl (cI, (5, .inl (upd (fo.2) (fo.1) v)))), ((a 46), .inr (5, [.ref (a 47), .int (nI 5)])), ((a 47), .inl (cI, (5, .inl tr))), ((a 48), .inr (5, [.ref (a 49), .int (nI 5)])), ((a 49), .inl (cI, (5, .inl be)))] : va_W)) rfl (by decide) (fun u => rfl) [(a 44), (a 45)] rfl (fun u => rfl) ([((a 43), .inr (1, [.ref (a 44), .ref (a 46), .ref (a 48)])), ((a 46), .inr (5, [.ref (a 47), .int (nI 5)])), ((a 47), .inl (cI, (5, .inl tr))), ((a 48), .inr (5, [.ref (a 49), .int (nI 5)])), ((a 49), .inl (cI, (5, .inl be)))] : va_W) rfl (fun u => rfl) [(a 43), (a 44), (a 45), (a 46), (a 47), (a 48), (a 49)] rfl (fun u => rfl) (by decide) (by decide) (by decide) (ci := 5) rfl rfl rfl hl.1 rfl (Nat.le_of_ble_eq_true rfl) dX1_grow_5 ⟨Nat.zero_le _, Nat.zero_le _⟩ (fun r u H locs hp hP hD hS => ?_)
  have hp : r = nI ((fo.1) + 1) := hp
  subst hp
  have hP : va_P D vwCl (([((a 43), .inr (1, [.ref (a 44), .ref (a 46), .ref (a 48)])), ((a 44), .inr (5, [.ref (a 45), .int (nI ((fo.1) + 1))])), ((a 45), .inl (cI, (5, .inl (upd (fo.2) (fo.1) v)))), ((a 46), .inr (5, [.ref (a 47), .int (nI 5)])), ((a 47), .inl (cI, (5, .inl tr))), ((a 48), .inr (5, [.ref (a 49), .int (nI 5)])), ((a 49), .inl (cI, (5, .inl be)))] : va_W)) H := hP
  have hD : va_D _ (([((a 43), .inr (1, [.ref (a 44), .ref (a 46), .ref (a 48)])), ((a 44), .inr (5, [.ref (a 45), .int (nI ((fo.1) + 1))])), ((a 45), .inl (cI, (5, .inl (upd (fo.2) (fo.1) v)))), ((a 46), .inr (5, [.ref (a 47), .int (nI 5)])), ((a 47), .inl (cI, (5, .inl tr))), ((a 48), .inr (5, [.ref (a 49), .int (nI 5)])), ((a 49), .inl (cI, (5, .inl be)))] : va_W)) := hD
  exact mu_iret (v := (nI ((fo.1) + 1))) hx hb hr hlocks (()) (rfl) (hP) hS dX1_grow_8

set_option maxHeartbeats 4000000 in
set_option maxRecDepth 100000 in
theorem c_X1_dropAll (l : Launch) (D : va_G) (cI cZ : ClassId) (a : Nat → Nat) (fo : TF) (tr be : Nat → Int32) (hf5 : fo.1 ≤ 5) : MI l D cI cZ yX1_dropAll wyX1_dropAll ({ frames := 1, cells := 0, slots := 0, locals := 21 } : Room) [.ref (a 43)] (wFk a cI fo tr be) (fun r _ => r = nI fo.1) (fun (_ : Unit) => wFk a cI (0, fo.2) tr be) := by
  refine Met.ofW (cc := cX1_dropAll) (maxL := 1) (ret := (some .int)) (by decide) rfl ?_
  intro p e s m args below meth c s₁ B hml hv
  obtain ⟨rfl, hK, hP, hD0⟩ := hv
  have hx := B.exec
  have hb := B.bytes
  have hr := B.returns
  have hts0 := atoms_spec (ws := wyX1_dropAll) B.pre
  have hts : ∀ w ∈ big, w.before _ s = true := fun w h => hts0 w (List.mem_cons_of_mem _ h)
  have hown : s.vm.findClass RX1 = some m.cls := findClass_of_methodNamed B.named
  have hlocks := B.notSynchronized
  have hD := D_inW hD0
  have hS : va_S (inW (wFk a cI fo tr be)) s.heap s.heap [] := va_S.rf
  have hl := lv_entry ([.ref (a 43)]) (n := 1) (Nat.le_of_ble_eq_true rfl)
  rw [lg_entry_eq]
  generalize (lg_sl ([.ref (a 43)]) ++ List.replicate (1 - (lg_sl ([.ref (a 43)])).length) Slot.unset).toArray = ls at hl ⊢
  have hl : lv_has ls 1 [(0, .ref (a 43))] := hl
  refine lv_aload_n hx hb dX1_dropAll_0 rfl (lv_at hl 0 rfl) ?_
  refine va_get (D := D) (ci := 1) (v := .ref (a 44)) (C := RX1) (T := TX1) (N := 3) hx hb hts hin1 hown hK.1 hP 0 rfl rfl 0 (by decide) (hts _ fl_X1_14) (fun _ h9 => h9) rfl dX1_dropAll_1 ?_
  refine mi_V2 (As := []) (rest := []) ⟨hx, hb, hml, hown, hts⟩ (c_X5_clear l D cI cZ (a 44) (a 45) 5 (fo.1) (fo.2)) (cw_X1_36 hts rfl rfl ⟨Nat.le_of_ble_eq_true rfl, Nat.le_of_ble_eq_true rfl⟩) hK hP hD hS 7 rfl [1, 2] [0, 3, 4, 5, 6] (fun (_ : Unit) => ([((a 43), .inr (1, [.ref (a 44), .ref (a 46), .ref (a 48)])), ((a 44), .inr (5, [.ref (a 45), .int (nI 0)])), ((a 45), .inl (cI, (5, .inl (fo.2)))), ((a 46), .inr (5, [.ref (a 47), .int (nI 5)])), ((a 47), .inl (cI, (5, .inl tr))), ((a 48), .inr (5, [.ref (a 49), .int (nI 5)])), ((a 49), .inl (cI, (5, .inl be)))] : va_W)) rfl (by decide) (fun u => rfl) [(a 44), (a 45)] rfl (fun u => rfl) ([((a 43), .inr (1, [.ref (a 44), .ref (a 46), .ref (a 48)])), ((a 46), .inr (5, [.ref (a 47), .int (nI 5)])), ((a 47), .inl (cI, (5, .inl tr))), ((a 48), .inr (5, [.ref (a 49), .int (nI 5)])), ((a 49), .inl (cI, (5, .inl be)))] : va_W) rfl (fun u => rfl) [(a 43), (a 44), (a 45), (a 46), (a 47), (a 48), (a 49)] rfl (fun u => rfl) (by decide) (by decide) (by decide) (ci := 5) rfl rfl rfl hl.1 rfl (Nat.le_of_ble_eq_true rfl) dX1_dropAll_4 ⟨Nat.zero_le _, Nat.zero_le _⟩ (fun r u H locs hp hP hD hS => ?_)
  have hp : r = nI (fo.1) := hp
  subst hp
  have hP : va_P D vwCl (([((a 43), .inr (1, [.ref (a 44), .ref (a 46), .ref (a 48)])), ((a 44), .inr (5, [.ref (a 45), .int (nI 0)])), ((a 45), .inl (cI, (5, .inl (fo.2)))), ((a 46), .inr (5, [.ref (a 47), .int (nI 5)])), ((a 47), .inl (cI, (5, .inl tr))), ((a 48), .inr (5, [.ref (a 49), .int (nI 5)])), ((a 49), .inl (cI, (5, .inl be)))] : va_W)) H := hP
  have hD : va_D _ (([((a 43), .inr (1, [.ref (a 44), .ref (a 46), .ref (a 48)])), ((a 44), .inr (5, [.ref (a 45), .int (nI 0)])), ((a 45), .inl (cI, (5, .inl (fo.2)))), ((a 46), .inr (5, [.ref (a 47), .int (nI 5)])), ((a 47), .inl (cI, (5, .inl tr))), ((a 48), .inr (5, [.ref (a 49), .int (nI 5)])), ((a 49), .inl (cI, (5, .inl be)))] : va_W)) := hD
  exact mu_iret (v := (nI (fo.1))) hx hb hr hlocks (()) (rfl) (hP) hS dX1_dropAll_7

set_option maxHeartbeats 4000000 in
set_option maxRecDepth 100000 in
theorem c_X1_houndOf (l : Launch) (D : va_G) (cI cZ : ClassId) (a : Nat → Nat) (fo : TF) (tr be : Nat → Int32) (hf5 : fo.1 ≤ 5) (b : Int32) : RO l D cI cZ yX1_houndOf wyX1_houndOf ({ frames := 1, cells := 0, slots := 0, locals := 21 } : Room) [.ref (a 43), .int b] (wFk a cI fo tr be) (rg 5 be b) := by
  refine Met.ofW (cc := cX1_houndOf) (maxL := 2) (ret := (some .int)) (by decide) rfl ?_
  intro p e s m args below meth c s₁ B hml hv
  obtain ⟨rfl, hK, hP⟩ := hv
  have hx := B.exec
  have hb := B.bytes
  have hr := B.returns
  have hts0 := atoms_spec (ws := wyX1_houndOf) B.pre
  have hts : ∀ w ∈ big, w.before _ s = true := fun w h => hts0 w (List.mem_cons_of_mem _ h)
  have hown : s.vm.findClass RX1 = some m.cls := findClass_of_methodNamed B.named
  have hlocks := B.notSynchronized
  have hl := lv_entry ([.ref (a 43), .int b]) (n := 2) (Nat.le_of_ble_eq_true rfl)
  rw [lg_entry_eq]
  generalize (lg_sl ([.ref (a 43), .int b]) ++ List.replicate (2 - (lg_sl ([.ref (a 43), .int b])).length) Slot.unset).toArray = ls at hl ⊢
  have hl : lv_has ls 2 [(0, .ref (a 43)), (1, .int b)] := hl
  refine lv_aload_n hx hb dX1_houndOf_0 rfl (lv_at hl 0 rfl) ?_
  refine va_get (D := D) (ci := 1) (v := .ref (a 48)) (C := RX1) (T := TX1) (N := 3) hx hb hts hin1 hown hK.1 hP 0 rfl rfl 2 (by decide) (hts _ fl_X1_25) (fun _ h9 => h9) rfl dX1_houndOf_1 ?_
  refine lv_iload_n hx hb dX1_houndOf_4 rfl (lv_at hl 1 rfl) ?_
  refine ro_V (As := [.int b]) (rest := []) ⟨hx, hb, hml, hown, hts⟩ (c_X5_get l D cI cZ (a 48) (a 49) 5 5 be (by decide) (by decide) b) (cw_X1_39 hts rfl rfl ⟨Nat.le_of_ble_eq_true rfl, Nat.le_of_ble_eq_true rfl⟩) hK (hP.sub [5, 6] rfl) (ci := 5) rfl rfl rfl hl.1 rfl (Nat.le_of_ble_eq_true rfl) dX1_houndOf_5 ⟨Nat.zero_le _, Nat.zero_le _⟩ ?_
  exact ro_iret hx hb hr hlocks (rfl) dX1_houndOf_8

set_option maxHeartbeats 4000000 in
set_option maxRecDepth 100000 in
theorem c_X1_comesBefore (l : Launch) (D : va_G) (cI cZ : ClassId) (a : Nat → Nat) (fo : TF) (tr be : Nat → Int32) (hf5 : fo.1 ≤ 5) (x y : Int32) : RO l D cI cZ yX1_comesBefore wyX1_comesBefore ({ frames := 1, cells := 0, slots := 0, locals := 21 } : Room) [.ref (a 43), .int x, .int y] (wFk a cI fo tr be) (zb (jBf fo x y = true)) := by
  refine Met.ofW (cc := cX1_comesBefore) (maxL := 4) (ret := (some .boolean)) (by decide) rfl ?_
  intro p e s m args below meth c s₁ B hml hv
  obtain ⟨rfl, hK, hP⟩ := hv
  have hx := B.exec
  have hb := B.bytes
  have hr := B.returns
  have hts0 := atoms_spec (ws := wyX1_comesBefore) B.pre
  have hts : ∀ w ∈ big, w.before _ s = true := fun w h => hts0 w (List.mem_cons_of_mem _ h)
  have hown : s.vm.findClass RX1 = some m.cls := findClass_of_methodNamed B.named
  have hlocks := B.notSynchronized
  have hl := lv_entry ([.ref (a 43), .int x, .int y]) (n := 4) (Nat.le_of_ble_eq_true rfl)
  rw [lg_entry_eq]
  generalize (lg_sl ([.ref (a 43), .int x, .int y]) ++ List.replicate (4 - (lg_sl ([.ref (a 43), .int x, .int y])).length) Slot.unset).toArray = ls at hl ⊢
  have hl : lv_has ls 4 [(0, .ref (a 43)), (1, .int x), (2, .int y)] := hl
  refine lv_aload_n hx hb dX1_comesBefore_0 rfl (lv_at hl 0 rfl) ?_
  refine va_get (D := D) (ci := 1) (v := .ref (a 44)) (C := RX1) (T := TX1) (N := 3) hx hb hts hin1 hown hK.1 hP 0 rfl rfl 0 (by decide) (hts _ fl_X1_14) (fun _ h9 => h9) rfl dX1_comesBefore_1 ?_
  refine lv_iload_n hx hb dX1_comesBefore_4 rfl (lv_at hl 1 rfl) ?_
  refine ro_V (As := [.int x]) (rest := []) ⟨hx, hb, hml, hown, hts⟩ (c_X5_get l D cI cZ (a 44) (a 45) 5 (fo.1) (fo.2) hf5 (by decide) x) (cw_X1_39 hts rfl rfl ⟨Nat.le_of_ble_eq_true rfl, Nat.le_of_ble_eq_true rfl⟩) hK (hP.sub [1, 2] rfl) (ci := 5) rfl rfl rfl hl.1 rfl (Nat.le_of_ble_eq_true rfl) dX1_comesBefore_5 ⟨Nat.zero_le _, Nat.zero_le _⟩ ?_
  refine lv_aload_n hx hb dX1_comesBefore_8 rfl (lv_at hl 0 rfl) ?_
  refine va_get (D := D) (ci := 1) (v := .ref (a 44)) (C := RX1) (T := TX1) (N := 3) hx hb hts hin1 hown hK.1 hP 0 rfl rfl 0 (by decide) (hts _ fl_X1_14) (fun _ h9 => h9) rfl dX1_comesBefore_9 ?_
  refine lv_iload_n hx hb dX1_comesBefore_12 rfl (lv_at hl 2 rfl) ?_
  refine ro_V (As := [.int y]) (rest := [.int (rg (fo.1) (fo.2) x)]) ⟨hx, hb, hml, hown, hts⟩ (c_X5_get l D cI cZ (a 44) (a 45) 5 (fo.1) (fo.2) hf5 (by decide) y) (cw_X1_39 hts rfl rfl ⟨Nat.le_of_ble_eq_true rfl, Nat.le_of_ble_eq_true rfl⟩) hK (hP.sub [1, 2] rfl) (ci := 5) rfl rfl rfl hl.1 rfl (Nat.le_of_ble_eq_true rfl) dX1_comesBefore_13 ⟨Nat.zero_le _, Nat.zero_le _⟩ ?_
  refine lv_isub hx hb dX1_comesBefore_16 ?_
  refine lv_istore_n (lv' := [(3, .int ((rg (fo.1) (fo.2) x) - (rg (fo.1) (fo.2) y))), (0, .ref (a 43)), (1, .int x), (2, .int y)]) hx hb dX1_comesBefore_17 rfl hl (by decide) rfl (fun ls hl => ?_)
  refine lv_iload_n hx hb dX1_comesBefore_18 rfl (lv_at hl 0 rfl) ?_
  refine lv_if_lt (tgt := 31) hx hb dX1_comesBefore_19 (by decide) (fun c_1 => ?_) (fun c_1 => ?_)
  · skip
    refine lv_iconst (v := 1) hx hb dX1_comesBefore_31 (by decide) ?_
    refine lv_goto (tgt := 36) hx hb dX1_comesBefore_32 (by decide) ?_
    exact ro_zret hx hb hr hlocks (nar_zb _) (by unfold jBf; simp only [decide_eq_true_eq]; exact (zb_t (Or.inl c_1)).symm) dX1_comesBefore_36
  · skip
    refine lv_iload_n hx hb dX1_comesBefore_22 rfl (lv_at hl 0 rfl) ?_
    refine lv_if_ne (tgt := 35) hx hb dX1_comesBefore_23 (by decide) (fun c_2 => ?_) (fun c_2 => ?_)
    · skip
      refine lv_iconst (v := 0) hx hb dX1_comesBefore_35 (by decide) ?_
      exact ro_zret hx hb hr hlocks (nar_zb _) (by unfold jBf; simp only [decide_eq_true_eq]; exact (zb_f (fun z => z.elim c_1 (fun z => c_2 z.1))).symm) dX1_comesBefore_36
    · skip
      refine lv_iload_n hx hb dX1_comesBefore_26 rfl (lv_at hl 2 rfl) ?_
      refine lv_iload_n hx hb dX1_comesBefore_27 rfl (lv_at hl 3 rfl) ?_
      refine lv_icmp_ge (tgt := 35) hx hb dX1_comesBefore_28 (by decide) (fun c_3 => ?_) (fun c_3 => ?_)
      · skip
        refine lv_iconst (v := 0) hx hb dX1_comesBefore_35 (by decide) ?_
        exact ro_zret hx hb hr hlocks (nar_zb _) (by unfold jBf; simp only [decide_eq_true_eq]; exact (zb_f (fun z => z.elim c_1 (fun z => absurd z.2 (Int32.not_lt.mpr c_3)))).symm) dX1_comesBefore_36
      · skip
        refine lv_iconst (v := 1) hx hb dX1_comesBefore_31 (by decide) ?_
        refine lv_goto (tgt := 36) hx hb dX1_comesBefore_32 (by decide) ?_
        exact ro_zret hx hb hr hlocks (nar_zb _) (by unfold jBf; simp only [decide_eq_true_eq]; exact (zb_t (Or.inr ⟨c_2, Int32.not_le.mp c_3⟩)).symm) dX1_comesBefore_36

set_option maxHeartbeats 4000000 in
set_option maxRecDepth 100000 in
theorem c_X1_timeOf (l : Launch) (D : va_G) (cI cZ : ClassId) (a : Nat → Nat) (fo : TF) (tr be : Nat → Int32) (hf5 : fo.1 ≤ 5) (x : Int32) : RO l D cI cZ yX1_timeOf wyX1_timeOf ({ frames := 2, cells := 0, slots := 0, locals := 44 } : Room) [.ref (a 43), .int x] (wFk a cI fo tr be) (jTm fo be x fo.1) := by
  refine Met.ofW (cc := cX1_timeOf) (maxL := 4) (ret := (some .int)) (by decide) rfl ?_
  intro p e s m args below meth c s₁ B hml hv
  obtain ⟨rfl, hK, hP⟩ := hv
  have hx := B.exec
  have hb := B.bytes
  have hr := B.returns
  have hts0 := atoms_spec (ws := wyX1_timeOf) B.pre
  have hts : ∀ w ∈ big, w.before _ s = true := fun w h => hts0 w (List.mem_cons_of_mem _ h)
  have hown : s.vm.findClass RX1 = some m.cls := findClass_of_methodNamed B.named
  have hlocks := B.notSynchronized
  have hl := lv_entry ([.ref (a 43), .int x]) (n := 4) (Nat.le_of_ble_eq_true rfl)
  rw [lg_entry_eq]
  generalize (lg_sl ([.ref (a 43), .int x]) ++ List.replicate (4 - (lg_sl ([.ref (a 43), .int x])).length) Slot.unset).toArray = ls at hl ⊢
  have hl : lv_has ls 4 [(0, .ref (a 43)), (1, .int x)] := hl
  refine lv_aload_n hx hb dX1_timeOf_0 rfl (lv_at hl 0 rfl) ?_
  refine va_get (D := D) (ci := 1) (v := .ref (a 44)) (C := RX1) (T := TX1) (N := 3) hx hb hts hin1 hown hK.1 hP 0 rfl rfl 0 (by decide) (hts _ fl_X1_14) (fun _ h9 => h9) rfl dX1_timeOf_1 ?_
  refine lv_iload_n hx hb dX1_timeOf_4 rfl (lv_at hl 1 rfl) ?_
  refine ro_V (As := [.int x]) (rest := []) ⟨hx, hb, hml, hown, hts⟩ (c_X5_get l D cI cZ (a 44) (a 45) 5 (fo.1) (fo.2) hf5 (by decide) x) (cw_X1_39 hts rfl rfl ⟨Nat.le_of_ble_eq_true rfl, Nat.le_of_ble_eq_true rfl⟩) hK (hP.sub [1, 2] rfl) (ci := 5) rfl rfl rfl hl.1 rfl (Nat.le_of_ble_eq_true rfl) dX1_timeOf_5 ⟨Nat.zero_le _, Nat.zero_le _⟩ ?_
  refine lv_istore_n (lv' := [(2, .int (rg (fo.1) (fo.2) x)), (0, .ref (a 43)), (1, .int x)]) hx hb dX1_timeOf_8 rfl hl (by decide) rfl (fun ls hl => ?_)
  refine lv_iconst (v := 0) hx hb dX1_timeOf_9 (by decide) ?_
  refine lv_istore_n (lv' := [(3, .int 0), (2, .int (rg (fo.1) (fo.2) x)), (0, .ref (a 43)), (1, .int x)]) hx hb dX1_timeOf_10 rfl hl (by decide) rfl (fun ls hl => ?_)
  refine w_loop (α := Nat) (fun a9 => a9 ≤ fo.1) (fun a9 => fo.1 - a9) (fun a9 => [(0, .ref (a 43)), (1, .int x), (2, .int (jTm fo be x a9)), (3, .int (nI a9))]) 11 4 ?_ 0 (Nat.zero_le _) (show lv_has ls 4 [(0, .ref (a 43)), (1, .int x), (2, .int (jTm fo be x 0)), (3, .int (nI 0))] from lv_sub hl [2, 3, 1, 0] rfl)
  intro a9 ls hI hl ih_11
  obtain ⟨b, rfl⟩ : ∃ z, z = a9 := ⟨a9, rfl⟩
  have hI : b ≤ fo.1 := hI
  have hl : lv_has ls 4 [(0, .ref (a 43)), (1, .int x), (2, .int (jTm fo be x b)), (3, .int (nI b))] := hl
  refine lv_iload_n hx hb dX1_timeOf_11 rfl (lv_at hl 3 rfl) ?_
  refine lv_aload_n hx hb dX1_timeOf_12 rfl (lv_at hl 0 rfl) ?_
  refine ro_V (As := []) (rest := [.int (nI b)]) ⟨hx, hb, hml, hown, hts⟩ (c_X1_branchCount l D cI cZ a fo tr be hf5) (cw_X1_42 hts rfl rfl ⟨Nat.le_of_ble_eq_true rfl, Nat.le_of_ble_eq_true rfl⟩) hK hP (ci := 1) rfl rfl rfl hl.1 rfl (Nat.le_of_ble_eq_true rfl) dX1_timeOf_13 ⟨Nat.zero_le _, Nat.zero_le _⟩ ?_
  refine lv_icmp_ge (tgt := 60) hx hb dX1_timeOf_16 (by decide) (fun c_1 => ?_) (fun c_1 => ?_)
  · skip
    have hge : fo.1 ≤ b := zge (by have := hI; omega) (by omega) c_1
    refine lv_iload_n hx hb dX1_timeOf_60 rfl (lv_at hl 2 rfl) ?_
    exact ro_iret hx hb hr hlocks (by rw [show fo.1 = b by omega]) dX1_timeOf_61
  · skip
    have hlt : b < fo.1 := zlt (by have := hI; omega) (by omega) c_1
    refine lv_aload_n hx hb dX1_timeOf_19 rfl (lv_at hl 0 rfl) ?_
    refine lv_iload_n hx hb dX1_timeOf_20 rfl (lv_at hl 3 rfl) ?_
    refine ro_V (As := [.int (nI b)]) (rest := []) ⟨hx, hb, hml, hown, hts⟩ (c_X1_houndOf l D cI cZ a fo tr be hf5 (nI b)) (cw_X1_65 hts rfl rfl ⟨Nat.le_of_ble_eq_true rfl, Nat.le_of_ble_eq_true rfl⟩) hK hP (ci := 1) rfl rfl rfl hl.1 rfl (Nat.le_of_ble_eq_true rfl) dX1_timeOf_21 ⟨Nat.zero_le _, Nat.zero_le _⟩ ?_
    refine lv_aload_n hx hb dX1_timeOf_24 rfl (lv_at hl 0 rfl) ?_
    refine lv_iload_n hx hb dX1_timeOf_25 rfl (lv_at hl 1 rfl) ?_
    refine ro_V (As := [.int x]) (rest := [.int (rg 5 be (nI b))]) ⟨hx, hb, hml, hown, hts⟩ (c_X1_houndOf l D cI cZ a fo tr be hf5 x) (cw_X1_65 hts rfl rfl ⟨Nat.le_of_ble_eq_true rfl, Nat.le_of_ble_eq_true rfl⟩) hK hP (ci := 1) rfl rfl rfl hl.1 rfl (Nat.le_of_ble_eq_true rfl) dX1_timeOf_26 ⟨Nat.zero_le _, Nat.zero_le _⟩ ?_
    refine lv_icmp_ne (tgt := 54) hx hb dX1_timeOf_29 (by decide) (fun c_2 => ?_) (fun c_2 => ?_)
    · skip
      have hl : lv_has ls 4 [(0, .ref (a 43)), (1, .int x), (2, .int (jTm fo be x (b + 1))), (3, .int (nI b))] := by rw [show jTm fo be x (b + 1) = (jTm fo be x b) from by rw [jTm]; rw [if_neg (fun z9 => c_2 z9.1)]]; exact hl
      refine lv_iinc (v := (nI (b + 1))) (lv' := [(3, .int (nI (b + 1))), (0, .ref (a 43)), (1, .int x), (2, .int (jTm fo be x (b + 1)))]) hx hb dX1_timeOf_54 hl (k := 3) rfl (nI_add b 1) (by decide) rfl (fun ls hl => ?_)
      refine lv_goto (tgt := 11) hx hb dX1_timeOf_57 (by decide) ?_
      exact ih_11 (b + 1) ls (show (b + 1) ≤ fo.1 from hlt) (show fo.1 - (b + 1) < fo.1 - b from by omega) (show lv_has ls 4 [(0, .ref (a 43)), (1, .int x), (2, .int (jTm fo be x (b + 1))), (3, .int (nI (b + 1)))] from lv_sub hl [1, 2, 3, 0] rfl)
    · skip
      refine lv_aload_n hx hb dX1_timeOf_32 rfl (lv_at hl 0 rfl) ?_
      refine lv_iload_n hx hb dX1_timeOf_33 rfl (lv_at hl 3 rfl) ?_
      refine lv_iload_n hx hb dX1_timeOf_34 rfl (lv_at hl 1 rfl) ?_
      refine ro_V (As := [.int (nI b), .int x]) (rest := []) ⟨hx, hb, hml, hown, hts⟩ (c_X1_comesBefore l D cI cZ a fo tr be hf5 (nI b) x) (cw_X1_68 hts rfl rfl ⟨Nat.le_of_ble_eq_true rfl, Nat.le_of_ble_eq_true rfl⟩) hK hP (ci := 1) rfl rfl rfl hl.1 rfl (Nat.le_of_ble_eq_true rfl) dX1_timeOf_35 ⟨Nat.zero_le _, Nat.zero_le _⟩ ?_
      refine lv_if_eq (tgt := 54) hx hb dX1_timeOf_38 (by decide) (fun c_3 => ?_) (fun c_3 => ?_)
      · skip
        have c_3 := zb_eq0 c_3
        have hl : lv_has ls 4 [(0, .ref (a 43)), (1, .int x), (2, .int (jTm fo be x (b + 1))), (3, .int (nI b))] := by rw [show jTm fo be x (b + 1) = (jTm fo be x b) from by rw [jTm]; rw [if_neg (fun z9 => c_3 z9.2)]]; exact hl
        refine lv_iinc (v := (nI (b + 1))) (lv' := [(3, .int (nI (b + 1))), (0, .ref (a 43)), (1, .int x), (2, .int (jTm fo be x (b + 1)))]) hx hb dX1_timeOf_54 hl (k := 3) rfl (nI_add b 1) (by decide) rfl (fun ls hl => ?_)
        refine lv_goto (tgt := 11) hx hb dX1_timeOf_57 (by decide) ?_
        exact ih_11 (b + 1) ls (show (b + 1) ≤ fo.1 from hlt) (show fo.1 - (b + 1) < fo.1 - b from by omega) (show lv_has ls 4 [(0, .ref (a 43)), (1, .int x), (2, .int (jTm fo be x (b + 1))), (3, .int (nI (b + 1)))] from lv_sub hl [1, 2, 3, 0] rfl)
      · skip
        have c_3 := zb_ne0 c_3
        refine lv_iload_n hx hb dX1_timeOf_41 rfl (lv_at hl 2 rfl) ?_
        refine lv_iconst (v := 2) hx hb dX1_timeOf_42 (by decide) ?_
        refine lv_aload_n hx hb dX1_timeOf_43 rfl (lv_at hl 0 rfl) ?_
        refine va_get (D := D) (ci := 1) (v := .ref (a 44)) (C := RX1) (T := TX1) (N := 3) hx hb hts hin1 hown hK.1 hP 0 rfl rfl 0 (by decide) (hts _ fl_X1_14) (fun _ h9 => h9) rfl dX1_timeOf_44 ?_
        refine lv_iload_n hx hb dX1_timeOf_47 rfl (lv_at hl 3 rfl) ?_
        refine ro_V (As := [.int (nI b)]) (rest := [.int 2, .int (jTm fo be x b)]) ⟨hx, hb, hml, hown, hts⟩ (c_X5_get l D cI cZ (a 44) (a 45) 5 (fo.1) (fo.2) hf5 (by decide) (nI b)) (cw_X1_39 hts rfl rfl ⟨Nat.le_of_ble_eq_true rfl, Nat.le_of_ble_eq_true rfl⟩) hK (hP.sub [1, 2] rfl) (ci := 5) rfl rfl rfl hl.1 rfl (Nat.le_of_ble_eq_true rfl) dX1_timeOf_48 ⟨Nat.zero_le _, Nat.zero_le _⟩ ?_
        rw [rg_in hlt (show (fo.1) < 2 ^ 31 by have := hf5; omega)]
        refine lv_imul hx hb dX1_timeOf_51 ?_
        refine lv_iadd hx hb dX1_timeOf_52 ?_
        refine lv_istore_n (lv' := [(2, .int ((jTm fo be x b) + (2 * ((fo.2) b)))), (0, .ref (a 43)), (1, .int x), (3, .int (nI b))]) hx hb dX1_timeOf_53 rfl hl (by decide) rfl (fun ls hl => ?_)
        have hl : lv_has ls 4 [(2, .int (jTm fo be x (b + 1))), (0, .ref (a 43)), (1, .int x), (3, .int (nI b))] := by rw [show jTm fo be x (b + 1) = ((jTm fo be x b) + (2 * ((fo.2) b))) from by rw [jTm]; rw [if_pos ⟨c_2, c_3⟩]]; exact hl
        refine lv_iinc (v := (nI (b + 1))) (lv' := [(3, .int (nI (b + 1))), (2, .int (jTm fo be x (b + 1))), (0, .ref (a 43)), (1, .int x)]) hx hb dX1_timeOf_54 hl (k := 3) rfl (nI_add b 1) (by decide) rfl (fun ls hl => ?_)
        refine lv_goto (tgt := 11) hx hb dX1_timeOf_57 (by decide) ?_
        exact ih_11 (b + 1) ls (show (b + 1) ≤ fo.1 from hlt) (show fo.1 - (b + 1) < fo.1 - b from by omega) (show lv_has ls 4 [(0, .ref (a 43)), (1, .int x), (2, .int (jTm fo be x (b + 1))), (3, .int (nI (b + 1)))] from lv_sub hl [2, 3, 1, 0] rfl)

set_option maxHeartbeats 4000000 in
set_option maxRecDepth 100000 in
theorem c_X1_worstTime (l : Launch) (D : va_G) (cI cZ : ClassId) (a : Nat → Nat) (fo : TF) (tr be : Nat → Int32) (hf5 : fo.1 ≤ 5) (hh : Nat) (hh3 : hh ≤ 3) : RO l D cI cZ yX1_worstTime wyX1_worstTime ({ frames := 2, cells := 0, slots := 0, locals := 40 } : Room) [.ref (a 43), .int (nI hh)] (wFk a cI fo tr be) (jWm fo tr hh) := by
  refine Met.ofW (cc := cX1_worstTime) (maxL := 8) (ret := (some .int)) (by decide) rfl ?_
  intro p e s m args below meth c s₁ B hml hv
  obtain ⟨rfl, hK, hP⟩ := hv
  have hx := B.exec
  have hb := B.bytes
  have hr := B.returns
  have hts0 := atoms_spec (ws := wyX1_worstTime) B.pre
  have hts : ∀ w ∈ big, w.before _ s = true := fun w h => hts0 w (List.mem_cons_of_mem _ h)
  have hown : s.vm.findClass RX1 = some m.cls := findClass_of_methodNamed B.named
  have hlocks := B.notSynchronized
  have hl := lv_entry ([.ref (a 43), .int (nI hh)]) (n := 8) (Nat.le_of_ble_eq_true rfl)
  rw [lg_entry_eq]
  generalize (lg_sl ([.ref (a 43), .int (nI hh)]) ++ List.replicate (8 - (lg_sl ([.ref (a 43), .int (nI hh)])).length) Slot.unset).toArray = ls at hl ⊢
  have hl : lv_has ls 8 [(0, .ref (a 43)), (1, .int (nI hh))] := hl
  refine lv_iconst (v := 0) hx hb dX1_worstTime_0 (by decide) ?_
  refine lv_istore_n (lv' := [(2, .int 0), (0, .ref (a 43)), (1, .int (nI hh))]) hx hb dX1_worstTime_1 rfl hl (by decide) rfl (fun ls hl => ?_)
  refine lv_iconst (v := 0) hx hb dX1_worstTime_2 (by decide) ?_
  refine lv_istore_n (lv' := [(3, .int 0), (2, .int 0), (0, .ref (a 43)), (1, .int (nI hh))]) hx hb dX1_worstTime_3 rfl hl (by decide) rfl (fun ls hl => ?_)
  refine w_loop (α := Nat) (fun a9 => a9 ≤ hh) (fun a9 => hh - a9) (fun a9 => [(0, .ref (a 43)), (1, .int (nI hh)), (2, .int (jWm fo tr a9)), (3, .int (nI a9))]) 4 8 ?_ 0 (Nat.zero_le _) (show lv_has ls 8 [(0, .ref (a 43)), (1, .int (nI hh)), (2, .int (jWm fo tr 0)), (3, .int (nI 0))] from lv_sub hl [2, 3, 1, 0] rfl)
  intro a9 ls hI hl ih_4
  obtain ⟨h, rfl⟩ : ∃ z, z = a9 := ⟨a9, rfl⟩
  have hI : h ≤ hh := hI
  have hl : lv_has ls 8 [(0, .ref (a 43)), (1, .int (nI hh)), (2, .int (jWm fo tr h)), (3, .int (nI h))] := hl
  refine lv_iload_n hx hb dX1_worstTime_4 rfl (lv_at hl 3 rfl) ?_
  refine lv_iload_n hx hb dX1_worstTime_5 rfl (lv_at hl 1 rfl) ?_
  refine lv_icmp_ge (tgt := 95) hx hb dX1_worstTime_6 (by decide) (fun c_1 => ?_) (fun c_1 => ?_)
  · skip
    have hge : hh ≤ h := zge (by omega) (by omega) c_1
    refine lv_iload_n hx hb dX1_worstTime_95 rfl (lv_at hl 2 rfl) ?_
    exact ro_iret hx hb hr hlocks (by rw [show hh = h by omega]) dX1_worstTime_96
  · skip
    have hlt_h : h < hh := zlt (by omega) (by omega) c_1
    refine lv_iconst (v := 0) hx hb dX1_worstTime_9 (by decide) ?_
    refine lv_istore (lv' := [(4, .int 0), (0, .ref (a 43)), (1, .int (nI hh)), (2, .int (jWm fo tr h)), (3, .int (nI h))]) hx hb dX1_worstTime_10 hl (by decide) rfl (fun ls hl => ?_)
    refine lv_iconst (v := 0) hx hb dX1_worstTime_12 (by decide) ?_
    refine lv_istore (lv' := [(5, .int 0), (4, .int 0), (0, .ref (a 43)), (1, .int (nI hh)), (2, .int (jWm fo tr h)), (3, .int (nI h))]) hx hb dX1_worstTime_13 hl (by decide) rfl (fun ls hl => ?_)
    refine lv_iconst (v := 0) hx hb dX1_worstTime_15 (by decide) ?_
    refine lv_istore (lv' := [(6, .int 0), (5, .int 0), (4, .int 0), (0, .ref (a 43)), (1, .int (nI hh)), (2, .int (jWm fo tr h)), (3, .int (nI h))]) hx hb dX1_worstTime_16 hl (by decide) rfl (fun ls hl => ?_)
    refine w_loop (α := Nat) (fun a9 => a9 ≤ fo.1) (fun a9 => fo.1 - a9) (fun a9 => [(0, .ref (a 43)), (1, .int (nI hh)), (2, .int (jWm fo tr h)), (3, .int (nI h)), (4, .int (jSm fo tr (nI h) a9)), (5, .int (jLg fo tr (nI h) a9)), (6, .int (nI a9))]) 18 8 ?_ 0 (Nat.zero_le _) (show lv_has ls 8 [(0, .ref (a 43)), (1, .int (nI hh)), (2, .int (jWm fo tr h)), (3, .int (nI h)), (4, .int (jSm fo tr (nI h) 0)), (5, .int (jLg fo tr (nI h) 0)), (6, .int (nI 0))] from lv_sub hl [3, 4, 5, 6, 2, 1, 0] rfl)
    intro a9 ls hI hl ih_18
    obtain ⟨b, rfl⟩ : ∃ z, z = a9 := ⟨a9, rfl⟩
    have hI : b ≤ fo.1 := hI
    have hl : lv_has ls 8 [(0, .ref (a 43)), (1, .int (nI hh)), (2, .int (jWm fo tr h)), (3, .int (nI h)), (4, .int (jSm fo tr (nI h) b)), (5, .int (jLg fo tr (nI h) b)), (6, .int (nI b))] := hl
    refine lv_iload hx hb dX1_worstTime_18 (lv_at hl 6 rfl) ?_
    refine lv_aload_n hx hb dX1_worstTime_20 rfl (lv_at hl 0 rfl) ?_
    refine ro_V (As := []) (rest := [.int (nI b)]) ⟨hx, hb, hml, hown, hts⟩ (c_X1_branchCount l D cI cZ a fo tr be hf5) (cw_X1_42 hts rfl rfl ⟨Nat.le_of_ble_eq_true rfl, Nat.le_of_ble_eq_true rfl⟩) hK hP (ci := 1) rfl rfl rfl hl.1 rfl (Nat.le_of_ble_eq_true rfl) dX1_worstTime_21 ⟨Nat.zero_le _, Nat.zero_le _⟩ ?_
    refine lv_icmp_ge (tgt := 77) hx hb dX1_worstTime_24 (by decide) (fun c_2 => ?_) (fun c_2 => ?_)
    · skip
      have hge : fo.1 ≤ b := zge (by have := hI; omega) (by omega) c_2
      have hl : lv_has ls 8 [(0, .ref (a 43)), (1, .int (nI hh)), (2, .int (jWm fo tr h)), (3, .int (nI h)), (4, .int (jSm fo tr (nI h) fo.1)), (5, .int (jLg fo tr (nI h) fo.1)), (6, .int (nI b))] := by rw [show fo.1 = b by omega]; exact hl
      refine lv_iload_n hx hb dX1_worstTime_77 rfl (lv_at hl 2 rfl) ?_
      refine lv_iconst (v := 2) hx hb dX1_worstTime_78 (by decide) ?_
      refine lv_iload hx hb dX1_worstTime_79 (lv_at hl 4 rfl) ?_
      refine lv_imul hx hb dX1_worstTime_81 ?_
      refine lv_iload hx hb dX1_worstTime_82 (lv_at hl 5 rfl) ?_
      refine lv_isub hx hb dX1_worstTime_84 ?_
      refine va_mmax hx hb (by rw [hml]; exact hl.1.symm) hown (hts _ ml_X1_59) (hts _ kx_ms) (hts _ kx_mi) (hts _ kx_mc) (Nat.le_of_ble_eq_true rfl) (Nat.le_of_ble_eq_true rfl) (Nat.zero_le _) (Nat.zero_le _) dX1_worstTime_85 ?_
      refine lv_istore_n (lv' := [(2, .int (if (jWm fo tr h) < ((2 * (jSm fo tr (nI h) fo.1)) - (jLg fo tr (nI h) fo.1)) then ((2 * (jSm fo tr (nI h) fo.1)) - (jLg fo tr (nI h) fo.1)) else (jWm fo tr h))), (0, .ref (a 43)), (1, .int (nI hh)), (3, .int (nI h)), (4, .int (jSm fo tr (nI h) fo.1)), (5, .int (jLg fo tr (nI h) fo.1)), (6, .int (nI b))]) hx hb dX1_worstTime_88 rfl hl (by decide) rfl (fun ls hl => ?_)
      have hl : lv_has ls 8 [(2, .int (jWm fo tr (h + 1))), (0, .ref (a 43)), (1, .int (nI hh)), (3, .int (nI h)), (4, .int (jSm fo tr (nI h) fo.1)), (5, .int (jLg fo tr (nI h) fo.1)), (6, .int (nI b))] := hl
      refine lv_iinc (v := (nI (h + 1))) (lv' := [(3, .int (nI (h + 1))), (2, .int (jWm fo tr (h + 1))), (0, .ref (a 43)), (1, .int (nI hh)), (4, .int (jSm fo tr (nI h) fo.1)), (5, .int (jLg fo tr (nI h) fo.1)), (6, .int (nI b))]) hx hb dX1_worstTime_89 hl (k := 3) rfl (nI_add h 1) (by decide) rfl (fun ls hl => ?_)
      refine lv_goto (tgt := 4) hx hb dX1_worstTime_92 (by decide) ?_
      exact ih_4 (h + 1) ls (show (h + 1) ≤ hh from hlt_h) (show hh - (h + 1) < hh - h from by omega) (show lv_has ls 8 [(0, .ref (a 43)), (1, .int (nI hh)), (2, .int (jWm fo tr (h + 1))), (3, .int (nI (h + 1)))] from lv_sub hl [2, 3, 1, 0] rfl)
    · skip
      have hlt : b < fo.1 := zlt (by have := hI; omega) (by omega) c_2
      refine w_join (α := Int32) (fun a9 => a9 = (if tr b = nI h then fo.2 b else 0)) (fun a9 => [(0, .ref (a 43)), (1, .int (nI hh)), (2, .int (jWm fo tr h)), (3, .int (nI h)), (4, .int (jSm fo tr (nI h) b)), (5, .int (jLg fo tr (nI h) b)), (6, .int (nI b))]) (fun a9 => [.int a9]) 53 8 (fun hJ_53 => ?_) ?_
      · skip
        refine lv_aload_n hx hb dX1_worstTime_27 rfl (lv_at hl 0 rfl) ?_
        refine va_get (D := D) (ci := 1) (v := .ref (a 46)) (C := RX1) (T := TX1) (N := 3) hx hb hts hin1 hown hK.1 hP 0 rfl rfl 1 (by decide) (hts _ fl_X1_22) (fun _ h9 => h9) rfl dX1_worstTime_28 ?_
        refine lv_iload hx hb dX1_worstTime_31 (lv_at hl 6 rfl) ?_
        refine ro_V (As := [.int (nI b)]) (rest := []) ⟨hx, hb, hml, hown, hts⟩ (c_X5_get l D cI cZ (a 46) (a 47) 5 5 tr (by decide) (by decide) (nI b)) (cw_X1_39 hts rfl rfl ⟨Nat.le_of_ble_eq_true rfl, Nat.le_of_ble_eq_true rfl⟩) hK (hP.sub [3, 4] rfl) (ci := 5) rfl rfl rfl hl.1 rfl (Nat.le_of_ble_eq_true rfl) dX1_worstTime_33 ⟨Nat.zero_le _, Nat.zero_le _⟩ ?_
        rw [rg_in (show b < 5 by omega) (show 5 < 2 ^ 31 by have := True.intro; omega)]
        refine lv_iload_n hx hb dX1_worstTime_36 rfl (lv_at hl 3 rfl) ?_
        refine lv_icmp_ne (tgt := 52) hx hb dX1_worstTime_37 (by decide) (fun c_3 => ?_) (fun c_3 => ?_)
        · skip
          refine lv_iconst (v := 0) hx hb dX1_worstTime_52 (by decide) ?_
          exact hJ_53 0 ls (show 0 = (if tr b = nI h then fo.2 b else 0) from by first | exact (if_pos c_3).symm | exact (if_neg c_3).symm) (show lv_has ls 8 [(0, .ref (a 43)), (1, .int (nI hh)), (2, .int (jWm fo tr h)), (3, .int (nI h)), (4, .int (jSm fo tr (nI h) b)), (5, .int (jLg fo tr (nI h) b)), (6, .int (nI b))] from lv_sub hl [0, 1, 2, 3, 4, 5, 6] rfl)
        · skip
          refine lv_aload_n hx hb dX1_worstTime_40 rfl (lv_at hl 0 rfl) ?_
          refine va_get (D := D) (ci := 1) (v := .ref (a 44)) (C := RX1) (T := TX1) (N := 3) hx hb hts hin1 hown hK.1 hP 0 rfl rfl 0 (by decide) (hts _ fl_X1_14) (fun _ h9 => h9) rfl dX1_worstTime_41 ?_
          refine lv_iload hx hb dX1_worstTime_44 (lv_at hl 6 rfl) ?_
          refine ro_V (As := [.int (nI b)]) (rest := []) ⟨hx, hb, hml, hown, hts⟩ (c_X5_get l D cI cZ (a 44) (a 45) 5 (fo.1) (fo.2) hf5 (by decide) (nI b)) (cw_X1_39 hts rfl rfl ⟨Nat.le_of_ble_eq_true rfl, Nat.le_of_ble_eq_true rfl⟩) hK (hP.sub [1, 2] rfl) (ci := 5) rfl rfl rfl hl.1 rfl (Nat.le_of_ble_eq_true rfl) dX1_worstTime_46 ⟨Nat.zero_le _, Nat.zero_le _⟩ ?_
          rw [rg_in hlt (show (fo.1) < 2 ^ 31 by have := hf5; omega)]
          refine lv_goto (tgt := 53) hx hb dX1_worstTime_49 (by decide) ?_
          exact hJ_53 ((fo.2) b) ls (show ((fo.2) b) = (if tr b = nI h then fo.2 b else 0) from by first | exact (if_pos c_3).symm | exact (if_neg c_3).symm) (show lv_has ls 8 [(0, .ref (a 43)), (1, .int (nI hh)), (2, .int (jWm fo tr h)), (3, .int (nI h)), (4, .int (jSm fo tr (nI h) b)), (5, .int (jLg fo tr (nI h) b)), (6, .int (nI b))] from lv_sub hl [0, 1, 2, 3, 4, 5, 6] rfl)
      · skip
        intro a9 ls hI hl
        obtain ⟨y, rfl⟩ : ∃ z, z = a9 := ⟨a9, rfl⟩
        have hI : y = (if tr b = nI h then fo.2 b else 0) := hI
        subst hI
        have hl : lv_has ls 8 [(0, .ref (a 43)), (1, .int (nI hh)), (2, .int (jWm fo tr h)), (3, .int (nI h)), (4, .int (jSm fo tr (nI h) b)), (5, .int (jLg fo tr (nI h) b)), (6, .int (nI b))] := hl
        refine lv_istore (lv' := [(7, .int (if tr b = nI h then fo.2 b else 0)), (0, .ref (a 43)), (1, .int (nI hh)), (2, .int (jWm fo tr h)), (3, .int (nI h)), (4, .int (jSm fo tr (nI h) b)), (5, .int (jLg fo tr (nI h) b)), (6, .int (nI b))]) hx hb dX1_worstTime_53 hl (by decide) rfl (fun ls hl => ?_)
        refine lv_iload hx hb dX1_worstTime_55 (lv_at hl 5 rfl) ?_
        refine lv_iload hx hb dX1_worstTime_57 (lv_at hl 0 rfl) ?_
        refine lv_iadd hx hb dX1_worstTime_59 ?_
        refine lv_istore (lv' := [(4, .int ((jSm fo tr (nI h) b) + (if tr b = nI h then fo.2 b else 0))), (7, .int (if tr b = nI h then fo.2 b else 0)), (0, .ref (a 43)), (1, .int (nI hh)), (2, .int (jWm fo tr h)), (3, .int (nI h)), (5, .int (jLg fo tr (nI h) b)), (6, .int (nI b))]) hx hb dX1_worstTime_60 hl (by decide) rfl (fun ls hl => ?_)
        have hl : lv_has ls 8 [(4, .int (jSm fo tr (nI h) (b + 1))), (7, .int (if tr b = nI h then fo.2 b else 0)), (0, .ref (a 43)), (1, .int (nI hh)), (2, .int (jWm fo tr h)), (3, .int (nI h)), (5, .int (jLg fo tr (nI h) b)), (6, .int (nI b))] := hl
        refine lv_iload hx hb dX1_worstTime_62 (lv_at hl 6 rfl) ?_
        refine lv_iload hx hb dX1_worstTime_64 (lv_at hl 1 rfl) ?_
        refine va_mmax hx hb (by rw [hml]; exact hl.1.symm) hown (hts _ ml_X1_59) (hts _ kx_ms) (hts _ kx_mi) (hts _ kx_mc) (Nat.le_of_ble_eq_true rfl) (Nat.le_of_ble_eq_true rfl) (Nat.zero_le _) (Nat.zero_le _) dX1_worstTime_66 ?_
        refine lv_istore (lv' := [(5, .int (if (jLg fo tr (nI h) b) < (if tr b = nI h then fo.2 b else 0) then (if tr b = nI h then fo.2 b else 0) else (jLg fo tr (nI h) b))), (4, .int (jSm fo tr (nI h) (b + 1))), (7, .int (if tr b = nI h then fo.2 b else 0)), (0, .ref (a 43)), (1, .int (nI hh)), (2, .int (jWm fo tr h)), (3, .int (nI h)), (6, .int (nI b))]) hx hb dX1_worstTime_69 hl (by decide) rfl (fun ls hl => ?_)
        have hl : lv_has ls 8 [(5, .int (jLg fo tr (nI h) (b + 1))), (4, .int (jSm fo tr (nI h) (b + 1))), (7, .int (if tr b = nI h then fo.2 b else 0)), (0, .ref (a 43)), (1, .int (nI hh)), (2, .int (jWm fo tr h)), (3, .int (nI h)), (6, .int (nI b))] := hl
        refine lv_iinc (v := (nI (b + 1))) (lv' := [(6, .int (nI (b + 1))), (5, .int (jLg fo tr (nI h) (b + 1))), (4, .int (jSm fo tr (nI h) (b + 1))), (7, .int (if tr b = nI h then fo.2 b else 0)), (0, .ref (a 43)), (1, .int (nI hh)), (2, .int (jWm fo tr h)), (3, .int (nI h))]) hx hb dX1_worstTime_71 hl (k := 7) rfl (nI_add b 1) (by decide) rfl (fun ls hl => ?_)
        refine lv_goto (tgt := 18) hx hb dX1_worstTime_74 (by decide) ?_
        exact ih_18 (b + 1) ls (show (b + 1) ≤ fo.1 from hlt) (show fo.1 - (b + 1) < fo.1 - b from by omega) (show lv_has ls 8 [(0, .ref (a 43)), (1, .int (nI hh)), (2, .int (jWm fo tr h)), (3, .int (nI h)), (4, .int (jSm fo tr (nI h) (b + 1))), (5, .int (jLg fo tr (nI h) (b + 1))), (6, .int (nI (b + 1)))] from lv_sub hl [4, 5, 6, 7, 2, 1, 0] rfl)

set_option maxHeartbeats 4000000 in
set_option maxRecDepth 100000 in
theorem c_X1_keepTried (l : Launch) (D : va_G) (cI cZ : ClassId) (a : Nat → Nat) (fo : TF) (tr be : Nat → Int32) (hf5 : fo.1 ≤ 5) : MV l D cI cZ yX1_keepTried wyX1_keepTried ({ frames := 2, cells := 0, slots := 0, locals := 40 } : Room) [.ref (a 43)] (wFk a cI fo tr be) (fun _ => True) (fun (_ : Unit) => wFk a cI fo tr (jKt tr be fo.1)) := by
  refine Met.ofW (cc := cX1_keepTried) (maxL := 2) (ret := none) (by decide) rfl ?_
  intro p e s m args below meth c s₁ B hml hv
  obtain ⟨rfl, hK, hP, hD0⟩ := hv
  have hx := B.exec
  have hb := B.bytes
  have hr := B.returns
  have hts0 := atoms_spec (ws := wyX1_keepTried) B.pre
  have hts : ∀ w ∈ big, w.before _ s = true := fun w h => hts0 w (List.mem_cons_of_mem _ h)
  have hown : s.vm.findClass RX1 = some m.cls := findClass_of_methodNamed B.named
  have hlocks := B.notSynchronized
  have hD := D_inW hD0
  have hS : va_S (inW (wFk a cI fo tr be)) s.heap s.heap [] := va_S.rf
  have hl := lv_entry ([.ref (a 43)]) (n := 2) (Nat.le_of_ble_eq_true rfl)
  rw [lg_entry_eq]
  generalize (lg_sl ([.ref (a 43)]) ++ List.replicate (2 - (lg_sl ([.ref (a 43)])).length) Slot.unset).toArray = ls at hl ⊢
  have hl : lv_has ls 2 [(0, .ref (a 43))] := hl
  refine lv_iconst (v := 0) hx hb dX1_keepTried_0 (by decide) ?_
  refine lv_istore_n (lv' := [(1, .int 0), (0, .ref (a 43))]) hx hb dX1_keepTried_1 rfl hl (by decide) rfl (fun ls hl => ?_)
  refine w_loopH (α := Nat) (fun a9 => a9 ≤ fo.1) (fun a9 => fo.1 - a9) (fun a9 => wFk a cI fo tr (jKt tr be a9)) (fun a9 => [(0, .ref (a 43)), (1, .int (nI a9))]) 2 2 ?_ 0 (Nat.zero_le _) (show lv_has ls 2 [(0, .ref (a 43)), (1, .int (nI 0))] from lv_sub hl [1, 0] rfl) hP hD hS
  intro a9 ls H locs hI hl hP hD hS ih_2
  obtain ⟨b, rfl⟩ : ∃ z, z = a9 := ⟨a9, rfl⟩
  have hI : b ≤ fo.1 := hI
  have hl : lv_has ls 2 [(0, .ref (a 43)), (1, .int (nI b))] := hl
  have hP : va_P D vwCl (wFk a cI fo tr (jKt tr be b)) H := hP
  have hD : va_D _ (wFk a cI fo tr (jKt tr be b)) := hD
  refine lv_iload_n hx hb dX1_keepTried_2 rfl (lv_at hl 1 rfl) ?_
  refine lv_aload_n hx hb dX1_keepTried_3 rfl (lv_at hl 0 rfl) ?_
  refine ro_V (As := []) (rest := [.int (nI b)]) ⟨hx, hb, hml, hown, hts⟩ (c_X1_branchCount l D cI cZ a fo tr (jKt tr be b) hf5) (cw_X1_42 hts rfl rfl ⟨Nat.le_of_ble_eq_true rfl, Nat.le_of_ble_eq_true rfl⟩) hK hP (ci := 1) rfl rfl rfl hl.1 rfl (Nat.le_of_ble_eq_true rfl) dX1_keepTried_4 ⟨Nat.zero_le _, Nat.zero_le _⟩ ?_
  refine lv_icmp_ge (tgt := 32) hx hb dX1_keepTried_7 (by decide) (fun c_1 => ?_) (fun c_1 => ?_)
  · skip
    have hge : fo.1 ≤ b := zge (by have := hI; omega) (by omega) c_1
    exact mu_vret hx hb hr hlocks (()) (trivial) (by rw [show fo.1 = b by omega]; exact hP) hS dX1_keepTried_32
  · skip
    have hlt : b < fo.1 := zlt (by have := hI; omega) (by omega) c_1
    refine lv_aload_n hx hb dX1_keepTried_10 rfl (lv_at hl 0 rfl) ?_
    refine va_get (D := D) (ci := 1) (v := .ref (a 48)) (C := RX1) (T := TX1) (N := 3) hx hb hts hin1 hown hK.1 hP 0 rfl rfl 2 (by decide) (hts _ fl_X1_25) (fun _ h9 => h9) rfl dX1_keepTried_11 ?_
    refine lv_iload_n hx hb dX1_keepTried_14 rfl (lv_at hl 1 rfl) ?_
    refine lv_aload_n hx hb dX1_keepTried_15 rfl (lv_at hl 0 rfl) ?_
    refine va_get (D := D) (ci := 1) (v := .ref (a 46)) (C := RX1) (T := TX1) (N := 3) hx hb hts hin1 hown hK.1 hP 0 rfl rfl 1 (by decide) (hts _ fl_X1_22) (fun _ h9 => h9) rfl dX1_keepTried_16 ?_
    refine lv_iload_n hx hb dX1_keepTried_19 rfl (lv_at hl 1 rfl) ?_
    refine ro_V (As := [.int (nI b)]) (rest := [.int (nI b), .ref (a 48)]) ⟨hx, hb, hml, hown, hts⟩ (c_X5_get l D cI cZ (a 46) (a 47) 5 5 tr (by decide) (by decide) (nI b)) (cw_X1_39 hts rfl rfl ⟨Nat.le_of_ble_eq_true rfl, Nat.le_of_ble_eq_true rfl⟩) hK (hP.sub [3, 4] rfl) (ci := 5) rfl rfl rfl hl.1 rfl (Nat.le_of_ble_eq_true rfl) dX1_keepTried_20 ⟨Nat.zero_le _, Nat.zero_le _⟩ ?_
    rw [rg_in (show b < 5 by omega) (show 5 < 2 ^ 31 by have := True.intro; omega)]
    refine mv_V2 (As := [.int (nI b), .int (tr b)]) (rest := []) ⟨hx, hb, hml, hown, hts⟩ (c_X5_put l D cI cZ (a 48) (a 49) 5 5 (jKt tr be b) (by decide) (by decide) (nI b) (tr b)) (cw_X1_45 hts rfl rfl ⟨Nat.le_of_ble_eq_true rfl, Nat.le_of_ble_eq_true rfl⟩) hK hP hD hS 7 rfl [5, 6] [0, 1, 2, 3, 4] (fun (_ : Unit) => wFk a cI fo tr (rp 5 (jKt tr be b) (nI b) (tr b))) rfl (by decide) (fun u => rfl) [(a 48), (a 49)] rfl (fun u => rfl) ([((a 43), .inr (1, [.ref (a 44), .ref (a 46), .ref (a 48)])), ((a 44), .inr (5, [.ref (a 45), .int (nI (fo.1))])), ((a 45), .inl (cI, (5, .inl (fo.2)))), ((a 46), .inr (5, [.ref (a 47), .int (nI 5)])), ((a 47), .inl (cI, (5, .inl tr)))] : va_W) rfl (fun u => rfl) [(a 43), (a 44), (a 45), (a 46), (a 47), (a 48), (a 49)] rfl (fun u => rfl) (by decide) (by decide) (by decide) (ci := 5) rfl rfl rfl hl.1 rfl (Nat.le_of_ble_eq_true rfl) dX1_keepTried_23 ⟨Nat.zero_le _, Nat.zero_le _⟩ (fun u H locs hp hP hD hS => ?_)
    have hrp : rp 5 (jKt tr be b) (nI b) (tr b) = upd (jKt tr be b) b (tr b) := rp_in (show b < 5 by omega) (by decide)
    rw [hrp] at hP hD
    clear hrp
    have hP : va_P D vwCl (wFk a cI fo tr (upd (jKt tr be b) b (tr b))) H := hP
    have hD : va_D _ (wFk a cI fo tr (upd (jKt tr be b) b (tr b))) := hD
    refine lv_iinc (v := (nI (b + 1))) (lv' := [(1, .int (nI (b + 1))), (0, .ref (a 43))]) hx hb dX1_keepTried_26 hl (k := 1) rfl (nI_add b 1) (by decide) rfl (fun ls hl => ?_)
    refine lv_goto (tgt := 2) hx hb dX1_keepTried_29 (by decide) ?_
    exact ih_2 (b + 1) ls H locs (show (b + 1) ≤ fo.1 from hlt) (show fo.1 - (b + 1) < fo.1 - b from by omega) (show lv_has ls 2 [(0, .ref (a 43)), (1, .int (nI (b + 1)))] from lv_sub hl [1, 0] rfl) hP hD hS

set_option maxHeartbeats 4000000 in
set_option maxRecDepth 100000 in
theorem c_X1_takeNextSplit (l : Launch) (D : va_G) (cI cZ : ClassId) (a : Nat → Nat) (fo : TF) (tr be : Nat → Int32) (hf5 : fo.1 ≤ 5) (h : Int32) : MI l D cI cZ yX1_takeNextSplit wyX1_takeNextSplit ({ frames := 2, cells := 0, slots := 0, locals := 40 } : Room) [.ref (a 43), .int h] (wFk a cI fo tr be) (fun r u => r = (jTn h fo.1 tr).1 ∧ u = (jTn h fo.1 tr).2) (fun u => wFk a cI fo u be) := by
  refine Met.ofW (cc := cX1_takeNextSplit) (maxL := 4) (ret := (some .boolean)) (by decide) rfl ?_
  intro p e s m args below meth c s₁ B hml hv
  obtain ⟨rfl, hK, hP, hD0⟩ := hv
  have hx := B.exec
  have hb := B.bytes
  have hr := B.returns
  have hts0 := atoms_spec (ws := wyX1_takeNextSplit) B.pre
  have hts : ∀ w ∈ big, w.before _ s = true := fun w h => hts0 w (List.mem_cons_of_mem _ h)
  have hown : s.vm.findClass RX1 = some m.cls := findClass_of_methodNamed B.named
  have hlocks := B.notSynchronized
  have hD := D_inW hD0
  have hS : va_S (inW (wFk a cI fo tr be)) s.heap s.heap [] := va_S.rf
  have hl := lv_entry ([.ref (a 43), .int h]) (n := 4) (Nat.le_of_ble_eq_true rfl)
  rw [lg_entry_eq]
  generalize (lg_sl ([.ref (a 43), .int h]) ++ List.replicate (4 - (lg_sl ([.ref (a 43), .int h])).length) Slot.unset).toArray = ls at hl ⊢
  have hl : lv_has ls 4 [(0, .ref (a 43)), (1, .int h)] := hl
  refine lv_aload_n hx hb dX1_takeNextSplit_0 rfl (lv_at hl 0 rfl) ?_
  refine ro_V (As := []) (rest := []) ⟨hx, hb, hml, hown, hts⟩ (c_X1_branchCount l D cI cZ a fo tr be hf5) (cw_X1_42 hts rfl rfl ⟨Nat.le_of_ble_eq_true rfl, Nat.le_of_ble_eq_true rfl⟩) hK hP (ci := 1) rfl rfl rfl hl.1 rfl (Nat.le_of_ble_eq_true rfl) dX1_takeNextSplit_1 ⟨Nat.zero_le _, Nat.zero_le _⟩ ?_
  refine lv_iconst (v := 1) hx hb dX1_takeNextSplit_4 (by decide) ?_
  refine lv_isub hx hb dX1_takeNextSplit_5 ?_
  refine lv_istore_n (lv' := [(2, .int ((nI fo.1) - 1)), (0, .ref (a 43)), (1, .int h)]) hx hb dX1_takeNextSplit_6 rfl hl (by decide) rfl (fun ls hl => ?_)
  refine w_loopH (α := Nat × (Nat → Int32)) (fun a9 => a9.1 ≤ fo.1 ∧ jTn h a9.1 a9.2 = jTn h fo.1 tr) (fun a9 => a9.1) (fun a9 => wFk a cI fo a9.2 be) (fun a9 => [(0, .ref (a 43)), (1, .int h), (2, .int (nI a9.1 - 1))]) 7 4 ?_ (fo.1, tr) (⟨Nat.le_refl _, rfl⟩) (show lv_has ls 4 [(0, .ref (a 43)), (1, .int h), (2, .int (nI fo.1 - 1))] from lv_sub hl [1, 2, 0] rfl) hP hD hS
  intro a9 ls H locs hI hl hP hD hS ih_7
  obtain ⟨j, t⟩ := a9
  have hI : j ≤ fo.1 ∧ jTn h j t = jTn h fo.1 tr := hI
  have hl : lv_has ls 4 [(0, .ref (a 43)), (1, .int h), (2, .int (nI j - 1))] := hl
  have hP : va_P D vwCl (wFk a cI fo t be) H := hP
  have hD : va_D _ (wFk a cI fo t be) := hD
  refine lv_iload_n hx hb dX1_takeNextSplit_7 rfl (lv_at hl 2 rfl) ?_
  refine lv_if_lt (tgt := 53) hx hb dX1_takeNextSplit_8 (by decide) (fun c_1 => ?_) (fun c_1 => ?_)
  · skip
    have hj0 : j = 0 := by rcases Nat.eq_zero_or_pos j with h9 | h9; exact h9; exact absurd c_1 (by rw [show nI j - 1 = nI (j - 1) from pk_sub (a := j) (b := 1) h9]; exact nI_pos (by omega))
    refine lv_iconst (v := 0) hx hb dX1_takeNextSplit_53 (by decide) ?_
    exact mu_zret (v := 0) hx hb hr hlocks (by first | exact nar_01 (Or.inl rfl) | exact nar_01 (Or.inr rfl)) (t) (by show (0 : Int32) = _ ∧ _ = _; rw [← hI.2, hj0]; exact ⟨rfl, rfl⟩) (hP) hS dX1_takeNextSplit_54
  · skip
    obtain ⟨b2, hj2⟩ : ∃ b2, j = b2 + 1 := ⟨j - 1, by rcases Nat.eq_zero_or_pos j with h9 | h9; exact absurd (by rw [h9]; decide) c_1; omega⟩
    have hl : lv_has ls 4 [(0, .ref (a 43)), (1, .int h), (2, .int (nI b2))] := by rw [← nI_pred b2, ← hj2]; exact hl
    refine lv_aload_n hx hb dX1_takeNextSplit_11 rfl (lv_at hl 0 rfl) ?_
    refine va_get (D := D) (ci := 1) (v := .ref (a 46)) (C := RX1) (T := TX1) (N := 3) hx hb hts hin1 hown hK.1 hP 0 rfl rfl 1 (by decide) (hts _ fl_X1_22) (fun _ h9 => h9) rfl dX1_takeNextSplit_12 ?_
    refine lv_iload_n hx hb dX1_takeNextSplit_15 rfl (lv_at hl 2 rfl) ?_
    refine ro_V (As := [.int (nI b2)]) (rest := []) ⟨hx, hb, hml, hown, hts⟩ (c_X5_get l D cI cZ (a 46) (a 47) 5 5 t (by decide) (by decide) (nI b2)) (cw_X1_39 hts rfl rfl ⟨Nat.le_of_ble_eq_true rfl, Nat.le_of_ble_eq_true rfl⟩) hK (hP.sub [3, 4] rfl) (ci := 5) rfl rfl rfl hl.1 rfl (Nat.le_of_ble_eq_true rfl) dX1_takeNextSplit_16 ⟨Nat.zero_le _, Nat.zero_le _⟩ ?_
    rw [rg_in (show b2 < 5 by omega) (show 5 < 2 ^ 31 by have := True.intro; omega)]
    refine lv_iconst (v := 1) hx hb dX1_takeNextSplit_19 (by decide) ?_
    refine lv_iadd hx hb dX1_takeNextSplit_20 ?_
    refine lv_istore_n (lv' := [(3, .int ((t b2) + 1)), (0, .ref (a 43)), (1, .int h), (2, .int (nI b2))]) hx hb dX1_takeNextSplit_21 rfl hl (by decide) rfl (fun ls hl => ?_)
    refine lv_iload_n hx hb dX1_takeNextSplit_22 rfl (lv_at hl 0 rfl) ?_
    refine lv_iload_n hx hb dX1_takeNextSplit_23 rfl (lv_at hl 2 rfl) ?_
    refine lv_icmp_ge (tgt := 38) hx hb dX1_takeNextSplit_24 (by decide) (fun c_2 => ?_) (fun c_2 => ?_)
    · skip
      refine lv_aload_n hx hb dX1_takeNextSplit_38 rfl (lv_at hl 1 rfl) ?_
      refine va_get (D := D) (ci := 1) (v := .ref (a 46)) (C := RX1) (T := TX1) (N := 3) hx hb hts hin1 hown hK.1 hP 0 rfl rfl 1 (by decide) (hts _ fl_X1_22) (fun _ h9 => h9) rfl dX1_takeNextSplit_39 ?_
      refine lv_iload_n hx hb dX1_takeNextSplit_42 rfl (lv_at hl 3 rfl) ?_
      refine lv_iconst (v := 0) hx hb dX1_takeNextSplit_43 (by decide) ?_
      refine mv_V2 (As := [.int (nI b2), .int 0]) (rest := []) ⟨hx, hb, hml, hown, hts⟩ (c_X5_put l D cI cZ (a 46) (a 47) 5 5 t (by decide) (by decide) (nI b2) 0) (cw_X1_45 hts rfl rfl ⟨Nat.le_of_ble_eq_true rfl, Nat.le_of_ble_eq_true rfl⟩) hK hP hD hS 7 rfl [3, 4] [0, 1, 2, 5, 6] (fun (_ : Unit) => wFk a cI fo (rp 5 t (nI b2) 0) be) rfl (by decide) (fun u => rfl) [(a 46), (a 47)] rfl (fun u => rfl) ([((a 43), .inr (1, [.ref (a 44), .ref (a 46), .ref (a 48)])), ((a 44), .inr (5, [.ref (a 45), .int (nI (fo.1))])), ((a 45), .inl (cI, (5, .inl (fo.2)))), ((a 48), .inr (5, [.ref (a 49), .int (nI 5)])), ((a 49), .inl (cI, (5, .inl be)))] : va_W) rfl (fun u => rfl) [(a 43), (a 44), (a 45), (a 46), (a 47), (a 48), (a 49)] rfl (fun u => rfl) (by decide) (by decide) (by decide) (ci := 5) rfl rfl rfl hl.1 rfl (Nat.le_of_ble_eq_true rfl) dX1_takeNextSplit_44 ⟨Nat.zero_le _, Nat.zero_le _⟩ (fun u H locs hp hP hD hS => ?_)
      have hrp : rp 5 t (nI b2) 0 = upd t b2 0 := rp_in (show b2 < 5 by omega) (by decide)
      rw [hrp] at hP hD
      clear hrp
      have hP : va_P D vwCl (wFk a cI fo (upd t b2 0) be) H := hP
      have hD : va_D _ (wFk a cI fo (upd t b2 0) be) := hD
      refine lv_iinc (v := ((nI b2) + (-1))) (lv' := [(2, .int ((nI b2) + (-1))), (3, .int ((t b2) + 1)), (0, .ref (a 43)), (1, .int h)]) hx hb dX1_takeNextSplit_47 hl (k := 3) rfl rfl (by decide) rfl (fun ls hl => ?_)
      have hl : lv_has ls 4 [(2, .int (nI b2 - 1)), (3, .int ((t b2) + 1)), (0, .ref (a 43)), (1, .int h)] := by rw [show nI b2 - 1 = (nI b2) + (-1) from by rw [Int32.sub_eq_add_neg]]; exact hl
      refine lv_goto (tgt := 7) hx hb dX1_takeNextSplit_50 (by decide) ?_
      exact ih_7 (b2, (upd t b2 0)) ls H locs (show b2 ≤ fo.1 ∧ jTn h b2 (upd t b2 0) = jTn h fo.1 tr from ⟨by omega, by rw [← hI.2, hj2, jTn, if_neg (Int32.not_lt.mpr c_2)]⟩) (show b2 < j from by omega) (show lv_has ls 4 [(0, .ref (a 43)), (1, .int h), (2, .int (nI b2 - 1))] from lv_sub hl [2, 3, 0] rfl) hP hD hS
    · skip
      refine lv_aload_n hx hb dX1_takeNextSplit_27 rfl (lv_at hl 1 rfl) ?_
      refine va_get (D := D) (ci := 1) (v := .ref (a 46)) (C := RX1) (T := TX1) (N := 3) hx hb hts hin1 hown hK.1 hP 0 rfl rfl 1 (by decide) (hts _ fl_X1_22) (fun _ h9 => h9) rfl dX1_takeNextSplit_28 ?_
      refine lv_iload_n hx hb dX1_takeNextSplit_31 rfl (lv_at hl 3 rfl) ?_
      refine lv_iload_n hx hb dX1_takeNextSplit_32 rfl (lv_at hl 0 rfl) ?_
      refine mv_V2 (As := [.int (nI b2), .int ((t b2) + 1)]) (rest := []) ⟨hx, hb, hml, hown, hts⟩ (c_X5_put l D cI cZ (a 46) (a 47) 5 5 t (by decide) (by decide) (nI b2) ((t b2) + 1)) (cw_X1_45 hts rfl rfl ⟨Nat.le_of_ble_eq_true rfl, Nat.le_of_ble_eq_true rfl⟩) hK hP hD hS 7 rfl [3, 4] [0, 1, 2, 5, 6] (fun (_ : Unit) => wFk a cI fo (rp 5 t (nI b2) ((t b2) + 1)) be) rfl (by decide) (fun u => rfl) [(a 46), (a 47)] rfl (fun u => rfl) ([((a 43), .inr (1, [.ref (a 44), .ref (a 46), .ref (a 48)])), ((a 44), .inr (5, [.ref (a 45), .int (nI (fo.1))])), ((a 45), .inl (cI, (5, .inl (fo.2)))), ((a 48), .inr (5, [.ref (a 49), .int (nI 5)])), ((a 49), .inl (cI, (5, .inl be)))] : va_W) rfl (fun u => rfl) [(a 43), (a 44), (a 45), (a 46), (a 47), (a 48), (a 49)] rfl (fun u => rfl) (by decide) (by decide) (by decide) (ci := 5) rfl rfl rfl hl.1 rfl (Nat.le_of_ble_eq_true rfl) dX1_takeNextSplit_33 ⟨Nat.zero_le _, Nat.zero_le _⟩ (fun u H locs hp hP hD hS => ?_)
      have hrp : rp 5 t (nI b2) ((t b2) + 1) = upd t b2 ((t b2) + 1) := rp_in (show b2 < 5 by omega) (by decide)
      rw [hrp] at hP hD
      clear hrp
      have hP : va_P D vwCl (wFk a cI fo (upd t b2 ((t b2) + 1)) be) H := hP
      have hD : va_D _ (wFk a cI fo (upd t b2 ((t b2) + 1)) be) := hD
      refine lv_iconst (v := 1) hx hb dX1_takeNextSplit_36 (by decide) ?_
      exact mu_zret (v := 1) hx hb hr hlocks (by first | exact nar_01 (Or.inl rfl) | exact nar_01 (Or.inr rfl)) ((upd t b2 (t b2 + 1))) (by show (1 : Int32) = _ ∧ _ = _; rw [← hI.2, hj2, jTn, if_pos (Int32.not_le.mp c_2)]; exact ⟨rfl, rfl⟩) (hP) hS dX1_takeNextSplit_37

set_option maxHeartbeats 4000000 in
set_option maxRecDepth 100000 in
theorem c_X1_findBestSplit (l : Launch) (D : va_G) (cI cZ : ClassId) (a : Nat → Nat) (fo : TF) (tr be : Nat → Int32) (hf5 : fo.1 ≤ 5) (hh : Nat) (hh3 : hh ≤ 3) : MI l D cI cZ yX1_findBestSplit wyX1_findBestSplit ({ frames := 3, cells := 0, slots := 0, locals := 67 } : Room) [.ref (a 43), .int (nI hh)] (wFk a cI fo tr be) (fun r _ => r = (jBs fo hh tr be).2.2) (fun (_ : Unit) => wFk a cI fo (jBs fo hh tr be).1 (jBs fo hh tr be).2.1) := by
  refine Met.ofW (cc := cX1_findBestSplit) (maxL := 5) (ret := (some .int)) (by decide) rfl ?_
  intro p e s m args below meth c s₁ B hml hv
  obtain ⟨rfl, hK, hP, hD0⟩ := hv
  have hx := B.exec
  have hb := B.bytes
  have hr := B.returns
  have hts0 := atoms_spec (ws := wyX1_findBestSplit) B.pre
  have hts : ∀ w ∈ big, w.before _ s = true := fun w h => hts0 w (List.mem_cons_of_mem _ h)
  have hown : s.vm.findClass RX1 = some m.cls := findClass_of_methodNamed B.named
  have hlocks := B.notSynchronized
  have hD := D_inW hD0
  have hS : va_S (inW (wFk a cI fo tr be)) s.heap s.heap [] := va_S.rf
  have hl := lv_entry ([.ref (a 43), .int (nI hh)]) (n := 5) (Nat.le_of_ble_eq_true rfl)
  rw [lg_entry_eq]
  generalize (lg_sl ([.ref (a 43), .int (nI hh)]) ++ List.replicate (5 - (lg_sl ([.ref (a 43), .int (nI hh)])).length) Slot.unset).toArray = ls at hl ⊢
  have hl : lv_has ls 5 [(0, .ref (a 43)), (1, .int (nI hh))] := hl
  refine lv_iconst (v := 0) hx hb dX1_findBestSplit_0 (by decide) ?_
  refine lv_istore_n (lv' := [(2, .int 0), (0, .ref (a 43)), (1, .int (nI hh))]) hx hb dX1_findBestSplit_1 rfl hl (by decide) rfl (fun ls hl => ?_)
  refine w_loopH (α := Nat) (fun a9 => a9 ≤ fo.1) (fun a9 => fo.1 - a9) (fun a9 => wFk a cI fo (jT0 tr a9) be) (fun a9 => [(0, .ref (a 43)), (1, .int (nI hh)), (2, .int (nI a9))]) 2 5 ?_ 0 (Nat.zero_le _) (show lv_has ls 5 [(0, .ref (a 43)), (1, .int (nI hh)), (2, .int (nI 0))] from lv_sub hl [1, 2, 0] rfl) hP hD hS
  intro a9 ls H locs hI hl hP hD hS ih_2
  obtain ⟨b, rfl⟩ : ∃ z, z = a9 := ⟨a9, rfl⟩
  have hI : b ≤ fo.1 := hI
  have hl : lv_has ls 5 [(0, .ref (a 43)), (1, .int (nI hh)), (2, .int (nI b))] := hl
  have hP : va_P D vwCl (wFk a cI fo (jT0 tr b) be) H := hP
  have hD : va_D _ (wFk a cI fo (jT0 tr b) be) := hD
  refine lv_iload_n hx hb dX1_findBestSplit_2 rfl (lv_at hl 2 rfl) ?_
  refine lv_aload_n hx hb dX1_findBestSplit_3 rfl (lv_at hl 0 rfl) ?_
  refine ro_V (As := []) (rest := [.int (nI b)]) ⟨hx, hb, hml, hown, hts⟩ (c_X1_branchCount l D cI cZ a fo (jT0 tr b) be hf5) (cw_X1_42 hts rfl rfl ⟨Nat.le_of_ble_eq_true rfl, Nat.le_of_ble_eq_true rfl⟩) hK hP (ci := 1) rfl rfl rfl hl.1 rfl (Nat.le_of_ble_eq_true rfl) dX1_findBestSplit_4 ⟨Nat.zero_le _, Nat.zero_le _⟩ ?_
  refine lv_icmp_ge (tgt := 25) hx hb dX1_findBestSplit_7 (by decide) (fun c_1 => ?_) (fun c_1 => ?_)
  · skip
    have hge : fo.1 ≤ b := zge (by have := hI; omega) (by omega) c_1
    rw [show b = fo.1 by omega] at hP hD
    have hP : va_P D vwCl (wFk a cI fo (jT0 tr fo.1) be) H := hP
    have hD : va_D _ (wFk a cI fo (jT0 tr fo.1) be) := hD
    refine lv_aload_n hx hb dX1_findBestSplit_25 rfl (lv_at hl 0 rfl) ?_
    refine lv_iload_n hx hb dX1_findBestSplit_26 rfl (lv_at hl 1 rfl) ?_
    refine ro_V (As := [.int (nI hh)]) (rest := []) ⟨hx, hb, hml, hown, hts⟩ (c_X1_worstTime l D cI cZ a fo (jT0 tr fo.1) be hf5 hh hh3) (cw_X1_49 hts rfl rfl ⟨Nat.le_of_ble_eq_true rfl, Nat.le_of_ble_eq_true rfl⟩) hK hP (ci := 1) rfl rfl rfl hl.1 rfl (Nat.le_of_ble_eq_true rfl) dX1_findBestSplit_27 ⟨Nat.zero_le _, Nat.zero_le _⟩ ?_
    refine lv_istore_n (lv' := [(2, .int (jWm fo (jT0 tr fo.1) hh)), (0, .ref (a 43)), (1, .int (nI hh))]) hx hb dX1_findBestSplit_30 rfl hl (by decide) rfl (fun ls hl => ?_)
    refine lv_aload_n hx hb dX1_findBestSplit_31 rfl (lv_at hl 1 rfl) ?_
    refine mv_V2 (As := []) (rest := []) ⟨hx, hb, hml, hown, hts⟩ (c_X1_keepTried l D cI cZ a fo (jT0 tr fo.1) be hf5) (cw_X1_52 hts rfl rfl ⟨Nat.le_of_ble_eq_true rfl, Nat.le_of_ble_eq_true rfl⟩) hK hP hD hS 7 rfl [0, 1, 2, 3, 4, 5, 6] [] (fun (_ : Unit) => wFk a cI fo (jT0 tr fo.1) (jKt (jT0 tr fo.1) be fo.1)) rfl (by decide) (fun u => rfl) [(a 43), (a 44), (a 45), (a 46), (a 47), (a 48), (a 49)] rfl (fun u => rfl) ([] : va_W) rfl (fun u => rfl) [(a 43), (a 44), (a 45), (a 46), (a 47), (a 48), (a 49)] rfl (fun u => rfl) (by decide) (by decide) (by decide) (ci := 1) rfl rfl rfl hl.1 rfl (Nat.le_of_ble_eq_true rfl) dX1_findBestSplit_32 ⟨Nat.zero_le _, Nat.zero_le _⟩ (fun u H locs hp hP hD hS => ?_)
    have hP : va_P D vwCl (wFk a cI fo (jT0 tr fo.1) (jKt (jT0 tr fo.1) be fo.1)) H := hP
    have hD : va_D _ (wFk a cI fo (jT0 tr fo.1) (jKt (jT0 tr fo.1) be fo.1)) := hD
    refine lv_iconst (v := 1) hx hb dX1_findBestSplit_35 (by decide) ?_
    refine lv_istore_n (lv' := [(3, .int 1), (2, .int (jWm fo (jT0 tr fo.1) hh)), (0, .ref (a 43)), (1, .int (nI hh))]) hx hb dX1_findBestSplit_36 rfl hl (by decide) rfl (fun ls hl => ?_)
    refine w_loopH (α := Nat × (Nat → Int32) × (Nat → Int32) × Int32) (fun a9 => 1 ≤ a9.1 ∧ a9.1 ≤ 243 ∧ jFb fo hh (243 - a9.1) a9.2.1 a9.2.2.1 a9.2.2.2 = jBs fo hh tr be) (fun a9 => 243 - a9.1) (fun a9 => wFk a cI fo a9.2.1 a9.2.2.1) (fun a9 => [(0, .ref (a 43)), (1, .int (nI hh)), (2, .int a9.2.2.2), (3, .int (nI a9.1))]) 37 5 ?_ (1, (jT0 tr fo.1), (jKt (jT0 tr fo.1) be fo.1), (jWm fo (jT0 tr fo.1) hh)) (⟨by omega, by omega, rfl⟩) (show lv_has ls 5 [(0, .ref (a 43)), (1, .int (nI hh)), (2, .int (jWm fo (jT0 tr fo.1) hh)), (3, .int (nI 1))] from lv_sub hl [2, 3, 1, 0] rfl) hP hD hS
    intro a9 ls H locs hI hl hP hD hS ih_37
    obtain ⟨n, t, bb, le⟩ := a9
    have hI : 1 ≤ n ∧ n ≤ 243 ∧ jFb fo hh (243 - n) t bb le = jBs fo hh tr be := hI
    have hl : lv_has ls 5 [(0, .ref (a 43)), (1, .int (nI hh)), (2, .int le), (3, .int (nI n))] := hl
    have hP : va_P D vwCl (wFk a cI fo t bb) H := hP
    have hD : va_D _ (wFk a cI fo t bb) := hD
    refine lv_iload_n hx hb dX1_findBestSplit_37 rfl (lv_at hl 3 rfl) ?_
    refine lv_sipush (v := 243) hx hb dX1_findBestSplit_38 (by decide) ?_
    refine lv_icmp_ge (tgt := 78) hx hb dX1_findBestSplit_41 (by decide) (fun c_2 => ?_) (fun c_2 => ?_)
    · skip
      have hn0 : 243 - n = 0 := by have h9 := c_2; rw [show (243 : Int32) = nI 243 from rfl, nI_leI (by omega) (by omega)] at h9; omega
      refine lv_iload_n hx hb dX1_findBestSplit_78 rfl (lv_at hl 2 rfl) ?_
      exact mu_iret (v := le) hx hb hr hlocks (()) (by show le = (jBs fo hh tr be).2.2; rw [← hI.2.2, hn0, jFb]) (by show va_P D vwCl (wFk a cI fo (jBs fo hh tr be).1 (jBs fo hh tr be).2.1) _; rw [← hI.2.2, hn0, jFb]; exact hP) hS dX1_findBestSplit_79
    · skip
      obtain ⟨n9, hn9⟩ : ∃ n9, 243 - n = n9 + 1 := ⟨242 - n, by have h9 := c_2; rw [show (243 : Int32) = nI 243 from rfl, nI_leI (by omega) (by omega)] at h9; omega⟩
      refine lv_aload_n hx hb dX1_findBestSplit_44 rfl (lv_at hl 0 rfl) ?_
      refine lv_iload_n hx hb dX1_findBestSplit_45 rfl (lv_at hl 1 rfl) ?_
      refine mi_V2 (As := [.int (nI hh)]) (rest := []) ⟨hx, hb, hml, hown, hts⟩ (c_X1_takeNextSplit l D cI cZ a fo t bb hf5 (nI hh)) (cw_X1_55 hts rfl rfl ⟨Nat.le_of_ble_eq_true rfl, Nat.le_of_ble_eq_true rfl⟩) hK hP hD hS 7 rfl [0, 1, 2, 3, 4, 5, 6] [] (fun u => wFk a cI fo u bb) rfl (by decide) (fun u => rfl) [(a 43), (a 44), (a 45), (a 46), (a 47), (a 48), (a 49)] rfl (fun u => rfl) ([] : va_W) rfl (fun u => rfl) [(a 43), (a 44), (a 45), (a 46), (a 47), (a 48), (a 49)] rfl (fun u => rfl) (by decide) (by decide) (by decide) (ci := 1) rfl rfl rfl hl.1 rfl (Nat.le_of_ble_eq_true rfl) dX1_findBestSplit_46 ⟨Nat.zero_le _, Nat.zero_le _⟩ (fun r u H locs hp hP hD hS => ?_)
      obtain ⟨hp1, hp2⟩ := hp
      subst hp2
      have hP : va_P D vwCl (wFk a cI fo ((jTn (nI hh) fo.1 t).2) bb) H := hP
      have hD : va_D _ (wFk a cI fo ((jTn (nI hh) fo.1 t).2) bb) := hD
      refine lv_if_eq (tgt := 78) hx hb dX1_findBestSplit_49 (by decide) (fun c_3 => ?_) (fun c_3 => ?_)
      · skip
        refine lv_iload_n hx hb dX1_findBestSplit_78 rfl (lv_at hl 2 rfl) ?_
        exact mu_iret (v := le) hx hb hr hlocks (()) (by show le = (jBs fo hh tr be).2.2; rw [← hI.2.2, hn9, jFb, if_pos (by rw [← hp1]; exact c_3)]) (by show va_P D vwCl (wFk a cI fo (jBs fo hh tr be).1 (jBs fo hh tr be).2.1) _; rw [← hI.2.2, hn9, jFb, if_pos (by rw [← hp1]; exact c_3)]; exact hP) hS dX1_findBestSplit_79
      · skip
        refine lv_aload_n hx hb dX1_findBestSplit_52 rfl (lv_at hl 0 rfl) ?_
        refine lv_iload_n hx hb dX1_findBestSplit_53 rfl (lv_at hl 1 rfl) ?_
        refine ro_V (As := [.int (nI hh)]) (rest := []) ⟨hx, hb, hml, hown, hts⟩ (c_X1_worstTime l D cI cZ a fo ((jTn (nI hh) fo.1 t).2) bb hf5 hh hh3) (cw_X1_49 hts rfl rfl ⟨Nat.le_of_ble_eq_true rfl, Nat.le_of_ble_eq_true rfl⟩) hK hP (ci := 1) rfl rfl rfl hl.1 rfl (Nat.le_of_ble_eq_true rfl) dX1_findBestSplit_54 ⟨Nat.zero_le _, Nat.zero_le _⟩ ?_
        refine lv_istore (lv' := [(4, .int (jWm fo ((jTn (nI hh) fo.1 t).2) hh)), (0, .ref (a 43)), (1, .int (nI hh)), (2, .int le), (3, .int (nI n))]) hx hb dX1_findBestSplit_57 hl (by decide) rfl (fun ls hl => ?_)
        refine lv_iload hx hb dX1_findBestSplit_59 (lv_at hl 0 rfl) ?_
        refine lv_iload_n hx hb dX1_findBestSplit_61 rfl (lv_at hl 3 rfl) ?_
        refine lv_icmp_ge (tgt := 72) hx hb dX1_findBestSplit_62 (by decide) (fun c_4 => ?_) (fun c_4 => ?_)
        · skip
          refine lv_iinc (v := (nI (n + 1))) (lv' := [(3, .int (nI (n + 1))), (4, .int (jWm fo ((jTn (nI hh) fo.1 t).2) hh)), (0, .ref (a 43)), (1, .int (nI hh)), (2, .int le)]) hx hb dX1_findBestSplit_72 hl (k := 4) rfl (nI_add n 1) (by decide) rfl (fun ls hl => ?_)
          refine lv_goto (tgt := 37) hx hb dX1_findBestSplit_75 (by decide) ?_
          exact ih_37 ((n + 1), (jTn (nI hh) fo.1 t).2, bb, le) ls H locs (show 1 ≤ (n + 1) ∧ (n + 1) ≤ 243 ∧ jFb fo hh (243 - (n + 1)) ((jTn (nI hh) fo.1 t).2) bb le = jBs fo hh tr be from ⟨by omega, by omega, by rw [← hI.2.2, hn9, show 243 - (n + 1) = n9 by omega, jFb, if_neg (by rw [← hp1]; exact c_3), if_neg (Int32.not_lt.mpr c_4)]⟩) (show 243 - (n + 1) < 243 - n from by omega) (show lv_has ls 5 [(0, .ref (a 43)), (1, .int (nI hh)), (2, .int le), (3, .int (nI (n + 1)))] from lv_sub hl [2, 3, 4, 0] rfl) hP hD hS
        · skip
          refine lv_iload hx hb dX1_findBestSplit_65 (lv_at hl 0 rfl) ?_
          refine lv_istore_n (lv' := [(2, .int (jWm fo ((jTn (nI hh) fo.1 t).2) hh)), (4, .int (jWm fo ((jTn (nI hh) fo.1 t).2) hh)), (0, .ref (a 43)), (1, .int (nI hh)), (3, .int (nI n))]) hx hb dX1_findBestSplit_67 rfl hl (by decide) rfl (fun ls hl => ?_)
          refine lv_aload_n hx hb dX1_findBestSplit_68 rfl (lv_at hl 2 rfl) ?_
          refine mv_V2 (As := []) (rest := []) ⟨hx, hb, hml, hown, hts⟩ (c_X1_keepTried l D cI cZ a fo ((jTn (nI hh) fo.1 t).2) bb hf5) (cw_X1_52 hts rfl rfl ⟨Nat.le_of_ble_eq_true rfl, Nat.le_of_ble_eq_true rfl⟩) hK hP hD hS 7 rfl [0, 1, 2, 3, 4, 5, 6] [] (fun (_ : Unit) => wFk a cI fo ((jTn (nI hh) fo.1 t).2) (jKt ((jTn (nI hh) fo.1 t).2) bb fo.1)) rfl (by decide) (fun u => rfl) [(a 43), (a 44), (a 45), (a 46), (a 47), (a 48), (a 49)] rfl (fun u => rfl) ([] : va_W) rfl (fun u => rfl) [(a 43), (a 44), (a 45), (a 46), (a 47), (a 48), (a 49)] rfl (fun u => rfl) (by decide) (by decide) (by decide) (ci := 1) rfl rfl rfl hl.1 rfl (Nat.le_of_ble_eq_true rfl) dX1_findBestSplit_69 ⟨Nat.zero_le _, Nat.zero_le _⟩ (fun u H locs hp hP hD hS => ?_)
          have hP : va_P D vwCl (wFk a cI fo ((jTn (nI hh) fo.1 t).2) (jKt ((jTn (nI hh) fo.1 t).2) bb fo.1)) H := hP
          have hD : va_D _ (wFk a cI fo ((jTn (nI hh) fo.1 t).2) (jKt ((jTn (nI hh) fo.1 t).2) bb fo.1)) := hD
          refine lv_iinc (v := (nI (n + 1))) (lv' := [(3, .int (nI (n + 1))), (2, .int (jWm fo ((jTn (nI hh) fo.1 t).2) hh)), (4, .int (jWm fo ((jTn (nI hh) fo.1 t).2) hh)), (0, .ref (a 43)), (1, .int (nI hh))]) hx hb dX1_findBestSplit_72 hl (k := 4) rfl (nI_add n 1) (by decide) rfl (fun ls hl => ?_)
          refine lv_goto (tgt := 37) hx hb dX1_findBestSplit_75 (by decide) ?_
          exact ih_37 ((n + 1), (jTn (nI hh) fo.1 t).2, (jKt ((jTn (nI hh) fo.1 t).2) bb fo.1), (jWm fo ((jTn (nI hh) fo.1 t).2) hh)) ls H locs (show 1 ≤ (n + 1) ∧ (n + 1) ≤ 243 ∧ jFb fo hh (243 - (n + 1)) ((jTn (nI hh) fo.1 t).2) (jKt ((jTn (nI hh) fo.1 t).2) bb fo.1) (jWm fo ((jTn (nI hh) fo.1 t).2) hh) = jBs fo hh tr be from ⟨by omega, by omega, by rw [← hI.2.2, hn9, show 243 - (n + 1) = n9 by omega, jFb, if_neg (by rw [← hp1]; exact c_3), if_pos (Int32.not_le.mp c_4)]⟩) (show 243 - (n + 1) < 243 - n from by omega) (show lv_has ls 5 [(0, .ref (a 43)), (1, .int (nI hh)), (2, .int (jWm fo ((jTn (nI hh) fo.1 t).2) hh)), (3, .int (nI (n + 1)))] from lv_sub hl [3, 4, 1, 0] rfl) hP hD hS
  · skip
    have hlt : b < fo.1 := zlt (by have := hI; omega) (by omega) c_1
    refine lv_aload_n hx hb dX1_findBestSplit_10 rfl (lv_at hl 0 rfl) ?_
    refine va_get (D := D) (ci := 1) (v := .ref (a 46)) (C := RX1) (T := TX1) (N := 3) hx hb hts hin1 hown hK.1 hP 0 rfl rfl 1 (by decide) (hts _ fl_X1_22) (fun _ h9 => h9) rfl dX1_findBestSplit_11 ?_
    refine lv_iload_n hx hb dX1_findBestSplit_14 rfl (lv_at hl 2 rfl) ?_
    refine lv_iconst (v := 0) hx hb dX1_findBestSplit_15 (by decide) ?_
    refine mv_V2 (As := [.int (nI b), .int 0]) (rest := []) ⟨hx, hb, hml, hown, hts⟩ (c_X5_put l D cI cZ (a 46) (a 47) 5 5 (jT0 tr b) (by decide) (by decide) (nI b) 0) (cw_X1_45 hts rfl rfl ⟨Nat.le_of_ble_eq_true rfl, Nat.le_of_ble_eq_true rfl⟩) hK hP hD hS 7 rfl [3, 4] [0, 1, 2, 5, 6] (fun (_ : Unit) => wFk a cI fo (rp 5 (jT0 tr b) (nI b) 0) be) rfl (by decide) (fun u => rfl) [(a 46), (a 47)] rfl (fun u => rfl) ([((a 43), .inr (1, [.ref (a 44), .ref (a 46), .ref (a 48)])), ((a 44), .inr (5, [.ref (a 45), .int (nI (fo.1))])), ((a 45), .inl (cI, (5, .inl (fo.2)))), ((a 48), .inr (5, [.ref (a 49), .int (nI 5)])), ((a 49), .inl (cI, (5, .inl be)))] : va_W) rfl (fun u => rfl) [(a 43), (a 44), (a 45), (a 46), (a 47), (a 48), (a 49)] rfl (fun u => rfl) (by decide) (by decide) (by decide) (ci := 5) rfl rfl rfl hl.1 rfl (Nat.le_of_ble_eq_true rfl) dX1_findBestSplit_16 ⟨Nat.zero_le _, Nat.zero_le _⟩ (fun u H locs hp hP hD hS => ?_)
    have hrp : rp 5 (jT0 tr b) (nI b) 0 = upd (jT0 tr b) b 0 := rp_in (show b < 5 by omega) (by decide)
    rw [hrp] at hP hD
    clear hrp
    have hP : va_P D vwCl (wFk a cI fo (upd (jT0 tr b) b 0) be) H := hP
    have hD : va_D _ (wFk a cI fo (upd (jT0 tr b) b 0) be) := hD
    refine lv_iinc (v := (nI (b + 1))) (lv' := [(2, .int (nI (b + 1))), (0, .ref (a 43)), (1, .int (nI hh))]) hx hb dX1_findBestSplit_19 hl (k := 2) rfl (nI_add b 1) (by decide) rfl (fun ls hl => ?_)
    refine lv_goto (tgt := 2) hx hb dX1_findBestSplit_22 (by decide) ?_
    exact ih_2 (b + 1) ls H locs (show (b + 1) ≤ fo.1 from hlt) (show fo.1 - (b + 1) < fo.1 - b from by omega) (show lv_has ls 5 [(0, .ref (a 43)), (1, .int (nI hh)), (2, .int (nI (b + 1)))] from lv_sub hl [1, 2, 0] rfl) hP hD hS
