def jXbranch (fo : TF) (x : Int32) : Int32 × TF := if 1 ≤ x ∧ x ≤ 20 then if nI fo.1 < 5 then (nI (fo.1 + 1), (fo.1 + 1, upd fo.2 fo.1 x)) else (-5, fo) else (-3, fo)
set_option maxHeartbeats 4000000 in
set_option maxRecDepth 100000 in
theorem c_X9_branch (l : Launch) (D : va_G) (cI cZ : ClassId) (a : Nat → Nat) (N : TN) (pb : Nat → Int32) (hN16 : N_n N ≤ 16) (S : TS) (sb : Nat → Int32) (q : TQ) (hS24 : S_n S ≤ 24) (w : Nat × (Nat → Int32) × Int32 × Int32) (hw : w.1 ≤ 31) (o : TO) (wy : Nat → Int32) (ho8 : o.1 ≤ 8) (ro : TR) (hr10 : ro.1 ≤ 10) (t : TT) (ht6 : t.1 ≤ 6) (zf : Nat → Nat) (hzf : ∀ i, i < t.1 → t.2.2.1 i = nI (zf i) ∧ zf i ≤ 6) (fo : TF) (tr be : Nat → Int32) (hf5 : fo.1 ≤ 5) (k : TC) (hk8 : k.2.1 ≤ 8) (x : Int32) : MI l D cI cZ yX9_branch wyX9_branch ({ frames := 2, cells := 0, slots := 0, locals := 42 } : Room) [.ref (a 0), .int x] (wX a cI N pb S sb q w o wy ro t fo tr be k) (fun r u => (r, u) = jXbranch fo x) (fun (u : TF) => wX a cI N pb S sb q w o wy ro t u tr be k) := by
  refine Met.ofW (cc := cX9_branch) (maxL := 2) (ret := (some .int)) (by decide) rfl ?_
  intro p e s m args below meth c s₁ B hml hv
  obtain ⟨rfl, hK, hP, hD0⟩ := hv
  have hx := B.exec
  have hb := B.bytes
  have hr := B.returns
  have hts0 := atoms_spec (ws := wyX9_branch) B.pre
  have hts : ∀ w ∈ big, w.before _ s = true := fun w h => hts0 w (List.mem_cons_of_mem _ h)
  have hown : s.vm.findClass RX9 = some m.cls := findClass_of_methodNamed B.named
  have hlocks := B.notSynchronized
  have hD := D_inW hD0
  have hS : va_S (inW (wX a cI N pb S sb q w o wy ro t fo tr be k)) s.heap s.heap [] := va_S.rf
  have hl := lv_entry ([.ref (a 0), .int x]) (n := 2) (Nat.le_of_ble_eq_true rfl)
  rw [lg_entry_eq]
  generalize (lg_sl ([.ref (a 0), .int x]) ++ List.replicate (2 - (lg_sl ([.ref (a 0), .int x])).length) Slot.unset).toArray = ls at hl ⊢
  have hl : lv_has ls 2 [(0, .ref (a 0)), (1, .int x)] := hl
  refine lv_iload_n hx hb dX9_branch_0 rfl (lv_at hl 1 rfl) ?_
  refine lv_iconst (v := 1) hx hb dX9_branch_1 (by decide) ?_
  refine lv_bipush (v := 20) hx hb dX9_branch_2 (by decide) ?_
  refine ro_S (As := [.int x, .int 1, .int 20]) (rest := []) ⟨hx, hb, hml, hown, hts⟩ (c_X9_isWithin l D cI cZ  x 1 20) (cw_X9_77 hts rfl rfl ⟨Nat.le_of_ble_eq_true rfl, Nat.le_of_ble_eq_true rfl⟩) hK P_nil rfl hl.1 rfl (Nat.le_of_ble_eq_true rfl) dX9_branch_4 ⟨Nat.zero_le _, Nat.zero_le _⟩ ?_
  refine lv_if_ne (tgt := 13) hx hb dX9_branch_7 (by decide) (fun c_1 => ?_) (fun c_1 => ?_)
  · skip
    have c_1 := zb_ne0 c_1
    refine lv_aload_n hx hb dX9_branch_13 rfl (lv_at hl 0 rfl) ?_
    refine va_get (D := D) (ci := 9) (v := .ref (a 43)) (C := RX9) (T := TX9) (N := 8) hx hb hts hin9 hown hK.1 hP 0 rfl rfl 6 (by decide) (hts _ fl_X9_62) (fun _ h9 => h9) rfl dX9_branch_14 ?_
    refine ro_V (As := []) (rest := []) ⟨hx, hb, hml, hown, hts⟩ (c_X1_branchCount l D cI cZ a fo tr be hf5) (cw_X9_207 hts rfl rfl ⟨Nat.le_of_ble_eq_true rfl, Nat.le_of_ble_eq_true rfl⟩) hK (wP_fk hP) (ci := 1) rfl rfl rfl hl.1 rfl (Nat.le_of_ble_eq_true rfl) dX9_branch_17 ⟨Nat.zero_le _, Nat.zero_le _⟩ ?_
    refine lv_iconst (v := 5) hx hb dX9_branch_20 (by decide) ?_
    refine lv_icmp_lt (tgt := 29) hx hb dX9_branch_21 (by decide) (fun c_2 => ?_) (fun c_2 => ?_)
    · skip
      have hb9 : fo.1 < 5 := by have h9 := c_2; rw [show (5 : Int32) = nI 5 from rfl, nI_ltI (by omega) (by omega)] at h9; exact h9
      refine lv_aload_n hx hb dX9_branch_29 rfl (lv_at hl 0 rfl) ?_
      refine va_get (D := D) (ci := 9) (v := .ref (a 43)) (C := RX9) (T := TX9) (N := 8) hx hb hts hin9 hown hK.1 hP 0 rfl rfl 6 (by decide) (hts _ fl_X9_62) (fun _ h9 => h9) rfl dX9_branch_30 ?_
      refine lv_iload_n hx hb dX9_branch_33 rfl (lv_at hl 1 rfl) ?_
      refine mi_F (As := [.int x]) (rest := []) ⟨hx, hb, hml, hown, hts⟩ (c_X1_grow l D cI cZ a fo tr be hb9 x) (cw_X9_210 hts rfl rfl ⟨Nat.le_of_ble_eq_true rfl, Nat.le_of_ble_eq_true rfl⟩) hK (wP_fk hP) (wD_fk hD) hS (ci := 1) rfl rfl rfl hl.1 rfl (Nat.le_of_ble_eq_true rfl) dX9_branch_34 ⟨Nat.zero_le _, Nat.zero_le _⟩ (fun r u H1 locs hp hP1 hk9 hS => ?_)
      obtain ⟨hP, hD⟩ := fX_fk hP hD (show va_P D vwCl (wFk a cI (fo.1 + 1, upd fo.2 fo.1 x) tr be) H1 from hP1) hk9
      clear hP1 hk9
      generalize H1 = H at hP hS ⊢
      have hp : r = nI (fo.1 + 1) := hp
      subst hp
      exact mu_iret (v := (nI (fo.1 + 1))) hx hb hr hlocks ((fo.1 + 1, upd fo.2 fo.1 x)) (by show (((nI (fo.1 + 1)) : Int32), (fo.1 + 1, upd fo.2 fo.1 x)) = jXbranch fo x; unfold jXbranch; (first | rw [if_pos c_1] | rw [if_neg c_1] | skip); (first | rw [if_pos c_2] | rw [if_neg c_2] | skip)) (hP) hS dX9_branch_37
    · skip
      refine lv_bipush (v := (-5)) hx hb dX9_branch_24 (by decide) ?_
      refine lv_goto (tgt := 37) hx hb dX9_branch_26 (by decide) ?_
      exact mu_iret (v := (-5)) hx hb hr hlocks (fo) (by show (((-5) : Int32), fo) = jXbranch fo x; unfold jXbranch; (first | rw [if_pos c_1] | rw [if_neg c_1] | skip); (first | rw [if_pos c_2] | rw [if_neg c_2] | skip)) (hP) hS dX9_branch_37
  · skip
    have c_1 := zb_eq0 c_1
    refine lv_bipush (v := (-3)) hx hb dX9_branch_10 (by decide) ?_
    exact mu_iret (v := (-3)) hx hb hr hlocks (fo) (by show (((-3) : Int32), fo) = jXbranch fo x; unfold jXbranch; (first | rw [if_pos c_1] | rw [if_neg c_1] | skip)) (hP) hS dX9_branch_12

def jXunbranch (fo : TF) : Int32 × TF := (nI fo.1, (0, fo.2))
set_option maxHeartbeats 4000000 in
set_option maxRecDepth 100000 in
theorem c_X9_unbranch (l : Launch) (D : va_G) (cI cZ : ClassId) (a : Nat → Nat) (N : TN) (pb : Nat → Int32) (hN16 : N_n N ≤ 16) (S : TS) (sb : Nat → Int32) (q : TQ) (hS24 : S_n S ≤ 24) (w : Nat × (Nat → Int32) × Int32 × Int32) (hw : w.1 ≤ 31) (o : TO) (wy : Nat → Int32) (ho8 : o.1 ≤ 8) (ro : TR) (hr10 : ro.1 ≤ 10) (t : TT) (ht6 : t.1 ≤ 6) (zf : Nat → Nat) (hzf : ∀ i, i < t.1 → t.2.2.1 i = nI (zf i) ∧ zf i ≤ 6) (fo : TF) (tr be : Nat → Int32) (hf5 : fo.1 ≤ 5) (k : TC) (hk8 : k.2.1 ≤ 8) : MI l D cI cZ yX9_unbranch wyX9_unbranch ({ frames := 2, cells := 0, slots := 0, locals := 41 } : Room) [.ref (a 0)] (wX a cI N pb S sb q w o wy ro t fo tr be k) (fun r u => (r, u) = jXunbranch fo) (fun (u : TF) => wX a cI N pb S sb q w o wy ro t u tr be k) := by
  refine Met.ofW (cc := cX9_unbranch) (maxL := 1) (ret := (some .int)) (by decide) rfl ?_
  intro p e s m args below meth c s₁ B hml hv
  obtain ⟨rfl, hK, hP, hD0⟩ := hv
  have hx := B.exec
  have hb := B.bytes
  have hr := B.returns
  have hts0 := atoms_spec (ws := wyX9_unbranch) B.pre
  have hts : ∀ w ∈ big, w.before _ s = true := fun w h => hts0 w (List.mem_cons_of_mem _ h)
  have hown : s.vm.findClass RX9 = some m.cls := findClass_of_methodNamed B.named
  have hlocks := B.notSynchronized
  have hD := D_inW hD0
  have hS : va_S (inW (wX a cI N pb S sb q w o wy ro t fo tr be k)) s.heap s.heap [] := va_S.rf
  have hl := lv_entry ([.ref (a 0)]) (n := 1) (Nat.le_of_ble_eq_true rfl)
  rw [lg_entry_eq]
  generalize (lg_sl ([.ref (a 0)]) ++ List.replicate (1 - (lg_sl ([.ref (a 0)])).length) Slot.unset).toArray = ls at hl ⊢
  have hl : lv_has ls 1 [(0, .ref (a 0))] := hl
  refine lv_aload_n hx hb dX9_unbranch_0 rfl (lv_at hl 0 rfl) ?_
  refine va_get (D := D) (ci := 9) (v := .ref (a 43)) (C := RX9) (T := TX9) (N := 8) hx hb hts hin9 hown hK.1 hP 0 rfl rfl 6 (by decide) (hts _ fl_X9_62) (fun _ h9 => h9) rfl dX9_unbranch_1 ?_
  refine mi_F (As := []) (rest := []) ⟨hx, hb, hml, hown, hts⟩ (c_X1_dropAll l D cI cZ a fo tr be hf5) (cw_X9_213 hts rfl rfl ⟨Nat.le_of_ble_eq_true rfl, Nat.le_of_ble_eq_true rfl⟩) hK (wP_fk hP) (wD_fk hD) hS (ci := 1) rfl rfl rfl hl.1 rfl (Nat.le_of_ble_eq_true rfl) dX9_unbranch_4 ⟨Nat.zero_le _, Nat.zero_le _⟩ (fun r u H1 locs hp hP1 hk9 hS => ?_)
  obtain ⟨hP, hD⟩ := fX_fk hP hD (show va_P D vwCl (wFk a cI (0, fo.2) tr be) H1 from hP1) hk9
  clear hP1 hk9
  generalize H1 = H at hP hS ⊢
  have hp : r = nI fo.1 := hp
  subst hp
  exact mu_iret (v := (nI fo.1)) hx hb hr hlocks ((0, fo.2)) (by show (((nI fo.1) : Int32), (0, fo.2)) = jXunbranch fo; unfold jXunbranch; rfl) (hP) hS dX9_unbranch_7

theorem h13_of {x : Int32} (h : 1 ≤ x ∧ x ≤ 3) : ∃ j : Nat, j ≤ 3 ∧ x = nI j := nI_of2 (M := 3) (n := 3) (by decide) (fun h9 => absurd (Int32.lt_of_le_of_lt h.1 h9) (by decide)) h.2
def jXworst (fo : TF) (tr be : Nat → Int32) (x : Int32) : Int32 × (Nat → Int32) × (Nat → Int32) := if 1 ≤ x ∧ x ≤ 3 then ((jBs fo x.toNatClampNeg tr be).2.2, (jBs fo x.toNatClampNeg tr be).1, (jBs fo x.toNatClampNeg tr be).2.1) else (-3, tr, be)
set_option maxHeartbeats 4000000 in
set_option maxRecDepth 100000 in
theorem c_X9_worst (l : Launch) (D : va_G) (cI cZ : ClassId) (a : Nat → Nat) (N : TN) (pb : Nat → Int32) (hN16 : N_n N ≤ 16) (S : TS) (sb : Nat → Int32) (q : TQ) (hS24 : S_n S ≤ 24) (w : Nat × (Nat → Int32) × Int32 × Int32) (hw : w.1 ≤ 31) (o : TO) (wy : Nat → Int32) (ho8 : o.1 ≤ 8) (ro : TR) (hr10 : ro.1 ≤ 10) (t : TT) (ht6 : t.1 ≤ 6) (zf : Nat → Nat) (hzf : ∀ i, i < t.1 → t.2.2.1 i = nI (zf i) ∧ zf i ≤ 6) (fo : TF) (tr be : Nat → Int32) (hf5 : fo.1 ≤ 5) (k : TC) (hk8 : k.2.1 ≤ 8) (x : Int32) : MI l D cI cZ yX9_worst wyX9_worst ({ frames := 4, cells := 0, slots := 0, locals := 91 } : Room) [.ref (a 0), .int x] (wX a cI N pb S sb q w o wy ro t fo tr be k) (fun r u => (r, u) = jXworst fo tr be x) (fun (u : (Nat → Int32) × (Nat → Int32)) => wX a cI N pb S sb q w o wy ro t fo u.1 u.2 k) := by
  refine Met.ofW (cc := cX9_worst) (maxL := 2) (ret := (some .int)) (by decide) rfl ?_
  intro p e s m args below meth c s₁ B hml hv
  obtain ⟨rfl, hK, hP, hD0⟩ := hv
  have hx := B.exec
  have hb := B.bytes
  have hr := B.returns
  have hts0 := atoms_spec (ws := wyX9_worst) B.pre
  have hts : ∀ w ∈ big, w.before _ s = true := fun w h => hts0 w (List.mem_cons_of_mem _ h)
  have hown : s.vm.findClass RX9 = some m.cls := findClass_of_methodNamed B.named
  have hlocks := B.notSynchronized
  have hD := D_inW hD0
  have hS : va_S (inW (wX a cI N pb S sb q w o wy ro t fo tr be k)) s.heap s.heap [] := va_S.rf
  have hl := lv_entry ([.ref (a 0), .int x]) (n := 2) (Nat.le_of_ble_eq_true rfl)
  rw [lg_entry_eq]
  generalize (lg_sl ([.ref (a 0), .int x]) ++ List.replicate (2 - (lg_sl ([.ref (a 0), .int x])).length) Slot.unset).toArray = ls at hl ⊢
  have hl : lv_has ls 2 [(0, .ref (a 0)), (1, .int x)] := hl
  refine lv_iload_n hx hb dX9_worst_0 rfl (lv_at hl 1 rfl) ?_
  refine lv_iconst (v := 1) hx hb dX9_worst_1 (by decide) ?_
  refine lv_iconst (v := 3) hx hb dX9_worst_2 (by decide) ?_
  refine ro_S (As := [.int x, .int 1, .int 3]) (rest := []) ⟨hx, hb, hml, hown, hts⟩ (c_X9_isWithin l D cI cZ  x 1 3) (cw_X9_77 hts rfl rfl ⟨Nat.le_of_ble_eq_true rfl, Nat.le_of_ble_eq_true rfl⟩) hK P_nil rfl hl.1 rfl (Nat.le_of_ble_eq_true rfl) dX9_worst_3 ⟨Nat.zero_le _, Nat.zero_le _⟩ ?_
  refine lv_if_eq (tgt := 20) hx hb dX9_worst_6 (by decide) (fun c_1 => ?_) (fun c_1 => ?_)
  · skip
    have c_1 := zb_eq0 c_1
    refine lv_bipush (v := (-3)) hx hb dX9_worst_20 (by decide) ?_
    exact mu_iret (v := (-3)) hx hb hr hlocks ((tr, be)) (by show (((-3) : Int32), (tr, be)) = jXworst fo tr be x; unfold jXworst; (first | rw [if_pos c_1] | rw [if_neg c_1] | skip)) (hP) hS dX9_worst_22
  · skip
    have c_1 := zb_ne0 c_1
    obtain ⟨hh, hh3, ehh⟩ := h13_of c_1
    have hl : lv_has ls 2 [(0, .ref (a 0)), (1, .int (nI hh))] := by rw [← ehh]; exact hl
    rw [ehh] at c_1
    refine lv_aload_n hx hb dX9_worst_9 rfl (lv_at hl 0 rfl) ?_
    refine va_get (D := D) (ci := 9) (v := .ref (a 43)) (C := RX9) (T := TX9) (N := 8) hx hb hts hin9 hown hK.1 hP 0 rfl rfl 6 (by decide) (hts _ fl_X9_62) (fun _ h9 => h9) rfl dX9_worst_10 ?_
    refine lv_iload_n hx hb dX9_worst_13 rfl (lv_at hl 1 rfl) ?_
    refine mi_F (As := [.int (nI hh)]) (rest := []) ⟨hx, hb, hml, hown, hts⟩ (c_X1_findBestSplit l D cI cZ a fo tr be hf5 hh hh3) (cw_X9_214 hts rfl rfl ⟨Nat.le_of_ble_eq_true rfl, Nat.le_of_ble_eq_true rfl⟩) hK (wP_fk hP) (wD_fk hD) hS (ci := 1) rfl rfl rfl hl.1 rfl (Nat.le_of_ble_eq_true rfl) dX9_worst_14 ⟨Nat.zero_le _, Nat.zero_le _⟩ (fun r u H1 locs hp hP1 hk9 hS => ?_)
    obtain ⟨hP, hD⟩ := fX_fk hP hD (show va_P D vwCl (wFk a cI fo (jBs fo hh tr be).1 (jBs fo hh tr be).2.1) H1 from hP1) hk9
    clear hP1 hk9
    generalize H1 = H at hP hS ⊢
    have hp : r = (jBs fo hh tr be).2.2 := hp
    subst hp
    refine lv_goto (tgt := 22) hx hb dX9_worst_17 (by decide) ?_
    exact mu_iret (v := (jBs fo hh tr be).2.2) hx hb hr hlocks (((jBs fo hh tr be).1, (jBs fo hh tr be).2.1)) (by show (((jBs fo hh tr be).2.2 : Int32), ((jBs fo hh tr be).1, (jBs fo hh tr be).2.1)) = jXworst fo tr be x; unfold jXworst; rw [ehh, nI_cl (by omega)]; (first | rw [if_pos c_1] | rw [if_neg c_1] | skip)) (hP) hS dX9_worst_22

def jXsplit (fo : TF) (tr be : Nat → Int32) (x y z : Int32) : Int32 × (Nat → Int32) × (Nat → Int32) := if 0 ≤ y ∧ y ≤ nI fo.1 - 1 then if 1 ≤ x ∧ x ≤ 3 then if 0 ≤ z ∧ z ≤ 1 then if z = 0 then (rg 5 (jBs fo x.toNatClampNeg tr be).2.1 y, (jBs fo x.toNatClampNeg tr be).1, (jBs fo x.toNatClampNeg tr be).2.1) else (jTm fo (jBs fo x.toNatClampNeg tr be).2.1 y fo.1, (jBs fo x.toNatClampNeg tr be).1, (jBs fo x.toNatClampNeg tr be).2.1) else (-3, tr, be) else (-3, tr, be) else (-2, tr, be)
set_option maxHeartbeats 4000000 in
set_option maxRecDepth 100000 in
theorem c_X9_split (l : Launch) (D : va_G) (cI cZ : ClassId) (a : Nat → Nat) (N : TN) (pb : Nat → Int32) (hN16 : N_n N ≤ 16) (S : TS) (sb : Nat → Int32) (q : TQ) (hS24 : S_n S ≤ 24) (w : Nat × (Nat → Int32) × Int32 × Int32) (hw : w.1 ≤ 31) (o : TO) (wy : Nat → Int32) (ho8 : o.1 ≤ 8) (ro : TR) (hr10 : ro.1 ≤ 10) (t : TT) (ht6 : t.1 ≤ 6) (zf : Nat → Nat) (hzf : ∀ i, i < t.1 → t.2.2.1 i = nI (zf i) ∧ zf i ≤ 6) (fo : TF) (tr be : Nat → Int32) (hf5 : fo.1 ≤ 5) (k : TC) (hk8 : k.2.1 ≤ 8) (x y z : Int32) : MI l D cI cZ yX9_split wyX9_split ({ frames := 4, cells := 0, slots := 0, locals := 91 } : Room) [.ref (a 0), .int x, .int y, .int z] (wX a cI N pb S sb q w o wy ro t fo tr be k) (fun r u => (r, u) = jXsplit fo tr be x y z) (fun (u : (Nat → Int32) × (Nat → Int32)) => wX a cI N pb S sb q w o wy ro t fo u.1 u.2 k) := by
  refine Met.ofW (cc := cX9_split) (maxL := 4) (ret := (some .int)) (by decide) rfl ?_
  intro p e s m args below meth c s₁ B hml hv
  obtain ⟨rfl, hK, hP, hD0⟩ := hv
  have hx := B.exec
  have hb := B.bytes
  have hr := B.returns
  have hts0 := atoms_spec (ws := wyX9_split) B.pre
  have hts : ∀ w ∈ big, w.before _ s = true := fun w h => hts0 w (List.mem_cons_of_mem _ h)
  have hown : s.vm.findClass RX9 = some m.cls := findClass_of_methodNamed B.named
  have hlocks := B.notSynchronized
  have hD := D_inW hD0
  have hS : va_S (inW (wX a cI N pb S sb q w o wy ro t fo tr be k)) s.heap s.heap [] := va_S.rf
  have hl := lv_entry ([.ref (a 0), .int x, .int y, .int z]) (n := 4) (Nat.le_of_ble_eq_true rfl)
  rw [lg_entry_eq]
  generalize (lg_sl ([.ref (a 0), .int x, .int y, .int z]) ++ List.replicate (4 - (lg_sl ([.ref (a 0), .int x, .int y, .int z])).length) Slot.unset).toArray = ls at hl ⊢
  have hl : lv_has ls 4 [(0, .ref (a 0)), (1, .int x), (2, .int y), (3, .int z)] := hl
  refine lv_iload_n hx hb dX9_split_0 rfl (lv_at hl 2 rfl) ?_
  refine lv_iconst (v := 0) hx hb dX9_split_1 (by decide) ?_
  refine lv_aload_n hx hb dX9_split_2 rfl (lv_at hl 0 rfl) ?_
  refine va_get (D := D) (ci := 9) (v := .ref (a 43)) (C := RX9) (T := TX9) (N := 8) hx hb hts hin9 hown hK.1 hP 0 rfl rfl 6 (by decide) (hts _ fl_X9_62) (fun _ h9 => h9) rfl dX9_split_3 ?_
  refine ro_V (As := []) (rest := [.int 0, .int y]) ⟨hx, hb, hml, hown, hts⟩ (c_X1_branchCount l D cI cZ a fo tr be hf5) (cw_X9_207 hts rfl rfl ⟨Nat.le_of_ble_eq_true rfl, Nat.le_of_ble_eq_true rfl⟩) hK (wP_fk hP) (ci := 1) rfl rfl rfl hl.1 rfl (Nat.le_of_ble_eq_true rfl) dX9_split_6 ⟨Nat.zero_le _, Nat.zero_le _⟩ ?_
  refine lv_iconst (v := 1) hx hb dX9_split_9 (by decide) ?_
  refine lv_isub hx hb dX9_split_10 ?_
  refine ro_S (As := [.int y, .int 0, .int ((nI fo.1) - 1)]) (rest := []) ⟨hx, hb, hml, hown, hts⟩ (c_X9_isWithin l D cI cZ  y 0 ((nI fo.1) - 1)) (cw_X9_77 hts rfl rfl ⟨Nat.le_of_ble_eq_true rfl, Nat.le_of_ble_eq_true rfl⟩) hK P_nil rfl hl.1 rfl (Nat.le_of_ble_eq_true rfl) dX9_split_11 ⟨Nat.zero_le _, Nat.zero_le _⟩ ?_
  refine lv_if_ne (tgt := 20) hx hb dX9_split_14 (by decide) (fun c_1 => ?_) (fun c_1 => ?_)
  · skip
    have c_1 := zb_ne0 c_1
    refine lv_iload_n hx hb dX9_split_20 rfl (lv_at hl 1 rfl) ?_
    refine lv_iconst (v := 1) hx hb dX9_split_21 (by decide) ?_
    refine lv_iconst (v := 3) hx hb dX9_split_22 (by decide) ?_
    refine ro_S (As := [.int x, .int 1, .int 3]) (rest := []) ⟨hx, hb, hml, hown, hts⟩ (c_X9_isWithin l D cI cZ  x 1 3) (cw_X9_77 hts rfl rfl ⟨Nat.le_of_ble_eq_true rfl, Nat.le_of_ble_eq_true rfl⟩) hK P_nil rfl hl.1 rfl (Nat.le_of_ble_eq_true rfl) dX9_split_23 ⟨Nat.zero_le _, Nat.zero_le _⟩ ?_
    refine lv_if_eq (tgt := 38) hx hb dX9_split_26 (by decide) (fun c_2 => ?_) (fun c_2 => ?_)
    · skip
      have c_2 := zb_eq0 c_2
      refine lv_bipush (v := (-3)) hx hb dX9_split_38 (by decide) ?_
      exact mu_iret (v := (-3)) hx hb hr hlocks ((tr, be)) (by show (((-3) : Int32), (tr, be)) = jXsplit fo tr be x y z; unfold jXsplit; (first | rw [if_pos c_1] | rw [if_neg c_1] | skip); (first | rw [if_pos c_2] | rw [if_neg c_2] | skip)) (hP) hS dX9_split_40
    · skip
      have c_2 := zb_ne0 c_2
      obtain ⟨hh, hh3, ehh⟩ := h13_of c_2
      have hl : lv_has ls 4 [(0, .ref (a 0)), (1, .int (nI hh)), (2, .int y), (3, .int z)] := by rw [← ehh]; exact hl
      rw [ehh] at c_2
      refine lv_iload_n hx hb dX9_split_29 rfl (lv_at hl 3 rfl) ?_
      refine lv_iconst (v := 0) hx hb dX9_split_30 (by decide) ?_
      refine lv_iconst (v := 1) hx hb dX9_split_31 (by decide) ?_
      refine ro_S (As := [.int z, .int 0, .int 1]) (rest := []) ⟨hx, hb, hml, hown, hts⟩ (c_X9_isWithin l D cI cZ  z 0 1) (cw_X9_77 hts rfl rfl ⟨Nat.le_of_ble_eq_true rfl, Nat.le_of_ble_eq_true rfl⟩) hK P_nil rfl hl.1 rfl (Nat.le_of_ble_eq_true rfl) dX9_split_32 ⟨Nat.zero_le _, Nat.zero_le _⟩ ?_
      refine lv_if_ne (tgt := 41) hx hb dX9_split_35 (by decide) (fun c_3 => ?_) (fun c_3 => ?_)
      · skip
        have c_3 := zb_ne0 c_3
        refine lv_aload_n hx hb dX9_split_41 rfl (lv_at hl 0 rfl) ?_
        refine va_get (D := D) (ci := 9) (v := .ref (a 43)) (C := RX9) (T := TX9) (N := 8) hx hb hts hin9 hown hK.1 hP 0 rfl rfl 6 (by decide) (hts _ fl_X9_62) (fun _ h9 => h9) rfl dX9_split_42 ?_
        refine lv_iload_n hx hb dX9_split_45 rfl (lv_at hl 1 rfl) ?_
        refine mi_F (As := [.int (nI hh)]) (rest := []) ⟨hx, hb, hml, hown, hts⟩ (c_X1_findBestSplit l D cI cZ a fo tr be hf5 hh hh3) (cw_X9_214 hts rfl rfl ⟨Nat.le_of_ble_eq_true rfl, Nat.le_of_ble_eq_true rfl⟩) hK (wP_fk hP) (wD_fk hD) hS (ci := 1) rfl rfl rfl hl.1 rfl (Nat.le_of_ble_eq_true rfl) dX9_split_46 ⟨Nat.zero_le _, Nat.zero_le _⟩ (fun r u H1 locs hp hP1 hk9 hS => ?_)
        obtain ⟨hP, hD⟩ := fX_fk hP hD (show va_P D vwCl (wFk a cI fo (jBs fo hh tr be).1 (jBs fo hh tr be).2.1) H1 from hP1) hk9
        clear hP1 hk9
        generalize H1 = H at hP hS ⊢
        have hp : r = (jBs fo hh tr be).2.2 := hp
        subst hp
        refine lv_pop hx hb dX9_split_49 rfl ?_
        refine lv_iload_n hx hb dX9_split_50 rfl (lv_at hl 3 rfl) ?_
        refine lv_if_ne (tgt := 65) hx hb dX9_split_51 (by decide) (fun c_4 => ?_) (fun c_4 => ?_)
        · skip
          refine lv_aload_n hx hb dX9_split_65 rfl (lv_at hl 0 rfl) ?_
          refine va_get (D := D) (ci := 9) (v := .ref (a 43)) (C := RX9) (T := TX9) (N := 8) hx hb hts hin9 hown hK.1 hP 0 rfl rfl 6 (by decide) (hts _ fl_X9_62) (fun _ h9 => h9) rfl dX9_split_66 ?_
          refine lv_iload_n hx hb dX9_split_69 rfl (lv_at hl 2 rfl) ?_
          refine ro_V (As := [.int y]) (rest := []) ⟨hx, hb, hml, hown, hts⟩ (c_X1_timeOf l D cI cZ a fo (jBs fo hh tr be).1 (jBs fo hh tr be).2.1 hf5 y) (cw_X9_220 hts rfl rfl ⟨Nat.le_of_ble_eq_true rfl, Nat.le_of_ble_eq_true rfl⟩) hK (wP_fk hP) (ci := 1) rfl rfl rfl hl.1 rfl (Nat.le_of_ble_eq_true rfl) dX9_split_70 ⟨Nat.zero_le _, Nat.zero_le _⟩ ?_
          exact mu_iret (v := (jTm fo (jBs fo hh tr be).2.1 y fo.1)) hx hb hr hlocks (((jBs fo hh tr be).1, (jBs fo hh tr be).2.1)) (by show (((jTm fo (jBs fo hh tr be).2.1 y fo.1) : Int32), ((jBs fo hh tr be).1, (jBs fo hh tr be).2.1)) = jXsplit fo tr be x y z; unfold jXsplit; rw [ehh, nI_cl (by omega)]; (first | rw [if_pos c_1] | rw [if_neg c_1] | skip); (first | rw [if_pos c_2] | rw [if_neg c_2] | skip); (first | rw [if_pos c_3] | rw [if_neg c_3] | skip); (first | rw [if_pos c_4] | rw [if_neg c_4] | skip)) (hP) hS dX9_split_73
        · skip
          refine lv_aload_n hx hb dX9_split_54 rfl (lv_at hl 0 rfl) ?_
          refine va_get (D := D) (ci := 9) (v := .ref (a 43)) (C := RX9) (T := TX9) (N := 8) hx hb hts hin9 hown hK.1 hP 0 rfl rfl 6 (by decide) (hts _ fl_X9_62) (fun _ h9 => h9) rfl dX9_split_55 ?_
          refine lv_iload_n hx hb dX9_split_58 rfl (lv_at hl 2 rfl) ?_
          refine ro_V (As := [.int y]) (rest := []) ⟨hx, hb, hml, hown, hts⟩ (c_X1_houndOf l D cI cZ a fo (jBs fo hh tr be).1 (jBs fo hh tr be).2.1 hf5 y) (cw_X9_217 hts rfl rfl ⟨Nat.le_of_ble_eq_true rfl, Nat.le_of_ble_eq_true rfl⟩) hK (wP_fk hP) (ci := 1) rfl rfl rfl hl.1 rfl (Nat.le_of_ble_eq_true rfl) dX9_split_59 ⟨Nat.zero_le _, Nat.zero_le _⟩ ?_
          refine lv_goto (tgt := 73) hx hb dX9_split_62 (by decide) ?_
          exact mu_iret (v := (rg 5 (jBs fo hh tr be).2.1 y)) hx hb hr hlocks (((jBs fo hh tr be).1, (jBs fo hh tr be).2.1)) (by show (((rg 5 (jBs fo hh tr be).2.1 y) : Int32), ((jBs fo hh tr be).1, (jBs fo hh tr be).2.1)) = jXsplit fo tr be x y z; unfold jXsplit; rw [ehh, nI_cl (by omega)]; (first | rw [if_pos c_1] | rw [if_neg c_1] | skip); (first | rw [if_pos c_2] | rw [if_neg c_2] | skip); (first | rw [if_pos c_3] | rw [if_neg c_3] | skip); (first | rw [if_pos c_4] | rw [if_neg c_4] | skip)) (hP) hS dX9_split_73
      · skip
        have c_3 := zb_eq0 c_3
        refine lv_bipush (v := (-3)) hx hb dX9_split_38 (by decide) ?_
        exact mu_iret (v := (-3)) hx hb hr hlocks ((tr, be)) (by show (((-3) : Int32), (tr, be)) = jXsplit fo tr be x y z; unfold jXsplit; rw [ehh, nI_cl (by omega)]; (first | rw [if_pos c_1] | rw [if_neg c_1] | skip); (first | rw [if_pos c_2] | rw [if_neg c_2] | skip); (first | rw [if_pos c_3] | rw [if_neg c_3] | skip)) (hP) hS dX9_split_40
  · skip
    have c_1 := zb_eq0 c_1
    refine lv_bipush (v := (-2)) hx hb dX9_split_17 (by decide) ?_
    exact mu_iret (v := (-2)) hx hb hr hlocks ((tr, be)) (by show (((-2) : Int32), (tr, be)) = jXsplit fo tr be x y z; unfold jXsplit; (first | rw [if_pos c_1] | rw [if_neg c_1] | skip)) (hP) hS dX9_split_19

def jXclub (N : TN) (k : TC) (x y : Int32) : Int32 × TC := if 0 ≤ x ∧ x ≤ 3 then if (y &&& (((1 : Int32) <<< (nI (N_n N) &&& 31) - 1) ^^^ (-1))) = 0 then (k.1 x.toNatClampNeg, jPs k x.toNatClampNeg y) else (-3, k) else (-2, k)
set_option maxHeartbeats 4000000 in
set_option maxRecDepth 100000 in
theorem c_X9_club (l : Launch) (D : va_G) (cI cZ : ClassId) (a : Nat → Nat) (N : TN) (pb : Nat → Int32) (hN16 : N_n N ≤ 16) (S : TS) (sb : Nat → Int32) (q : TQ) (hS24 : S_n S ≤ 24) (w : Nat × (Nat → Int32) × Int32 × Int32) (hw : w.1 ≤ 31) (o : TO) (wy : Nat → Int32) (ho8 : o.1 ≤ 8) (ro : TR) (hr10 : ro.1 ≤ 10) (t : TT) (ht6 : t.1 ≤ 6) (zf : Nat → Nat) (hzf : ∀ i, i < t.1 → t.2.2.1 i = nI (zf i) ∧ zf i ≤ 6) (fo : TF) (tr be : Nat → Int32) (hf5 : fo.1 ≤ 5) (k : TC) (hk8 : k.2.1 ≤ 8) (x y : Int32) : MI l D cI cZ yX9_club wyX9_club ({ frames := 3, cells := 0, slots := 0, locals := 60 } : Room) [.ref (a 0), .int x, .int y] (wX a cI N pb S sb q w o wy ro t fo tr be k) (fun r u => (r, u) = jXclub N k x y) (fun (u : TC) => wX a cI N pb S sb q w o wy ro t fo tr be u) := by
  refine Met.ofW (cc := cX9_club) (maxL := 3) (ret := (some .int)) (by decide) rfl ?_
  intro p e s m args below meth c s₁ B hml hv
  obtain ⟨rfl, hK, hP, hD0⟩ := hv
  have hx := B.exec
  have hb := B.bytes
  have hr := B.returns
  have hts0 := atoms_spec (ws := wyX9_club) B.pre
  have hts : ∀ w ∈ big, w.before _ s = true := fun w h => hts0 w (List.mem_cons_of_mem _ h)
  have hown : s.vm.findClass RX9 = some m.cls := findClass_of_methodNamed B.named
  have hlocks := B.notSynchronized
  have hD := D_inW hD0
  have hS : va_S (inW (wX a cI N pb S sb q w o wy ro t fo tr be k)) s.heap s.heap [] := va_S.rf
  have hl := lv_entry ([.ref (a 0), .int x, .int y]) (n := 3) (Nat.le_of_ble_eq_true rfl)
  rw [lg_entry_eq]
  generalize (lg_sl ([.ref (a 0), .int x, .int y]) ++ List.replicate (3 - (lg_sl ([.ref (a 0), .int x, .int y])).length) Slot.unset).toArray = ls at hl ⊢
  have hl : lv_has ls 3 [(0, .ref (a 0)), (1, .int x), (2, .int y)] := hl
  refine lv_iload_n hx hb dX9_club_0 rfl (lv_at hl 1 rfl) ?_
  refine ro_S (As := [.int x]) (rest := []) ⟨hx, hb, hml, hown, hts⟩ (c_X9_isClub l D cI cZ  x) (cw_X9_223 hts rfl rfl ⟨Nat.le_of_ble_eq_true rfl, Nat.le_of_ble_eq_true rfl⟩) hK P_nil rfl hl.1 rfl (Nat.le_of_ble_eq_true rfl) dX9_club_1 ⟨Nat.zero_le _, Nat.zero_le _⟩ ?_
  refine lv_if_ne (tgt := 10) hx hb dX9_club_4 (by decide) (fun c_1 => ?_) (fun c_1 => ?_)
  · skip
    have c_1 := zb_ne0 c_1
    obtain ⟨j, hj4, ej⟩ := nI_of2 (M := 3) (n := 3) (by decide) (Int32.not_lt.mpr c_1.1) c_1.2
    have hj : j < 4 := by omega
    have hl : lv_has ls 3 [(0, .ref (a 0)), (1, .int (nI j)), (2, .int y)] := by rw [← ej]; exact hl
    rw [ej] at c_1
    refine lv_iload_n hx hb dX9_club_10 rfl (lv_at hl 2 rfl) ?_
    refine lv_aload_n hx hb dX9_club_11 rfl (lv_at hl 0 rfl) ?_
    refine va_get (D := D) (ci := 9) (v := .ref (a 1)) (C := RX9) (T := TX9) (N := 8) hx hb hts hin9 hown hK.1 hP 0 rfl rfl 0 (by decide) (hts _ fl_X9_10) (fun _ h9 => h9) rfl dX9_club_12 ?_
    refine ro_V (As := []) (rest := [.int y]) ⟨hx, hb, hml, hown, hts⟩ (c_X2_allPaths l D cI cZ a N pb hN16) (cw_X9_226 hts rfl rfl ⟨Nat.le_of_ble_eq_true rfl, Nat.le_of_ble_eq_true rfl⟩) hK (wP_net hP) (ci := 2) rfl rfl rfl hl.1 rfl (Nat.le_of_ble_eq_true rfl) dX9_club_15 ⟨Nat.zero_le _, Nat.zero_le _⟩ ?_
    refine lv_iconst (v := (-1)) hx hb dX9_club_18 (by decide) ?_
    refine lv_ixor hx hb dX9_club_19 ?_
    refine lv_iand hx hb dX9_club_20 ?_
    refine lv_if_ne (tgt := 36) hx hb dX9_club_21 (by decide) (fun c_2 => ?_) (fun c_2 => ?_)
    · skip
      refine lv_bipush (v := (-3)) hx hb dX9_club_36 (by decide) ?_
      exact mu_iret (v := (-3)) hx hb hr hlocks (k) (by show (((-3) : Int32), k) = jXclub N k x y; unfold jXclub; rw [ej, nI_cl (by omega)]; (first | rw [if_pos c_1] | rw [if_neg c_1] | skip); (first | rw [if_pos c_2] | rw [if_neg c_2] | skip)) (hP) hS dX9_club_38
    · skip
      refine lv_aload_n hx hb dX9_club_24 rfl (lv_at hl 0 rfl) ?_
      refine va_get (D := D) (ci := 9) (v := .ref (a 50)) (C := RX9) (T := TX9) (N := 8) hx hb hts hin9 hown hK.1 hP 0 rfl rfl 7 (by decide) (hts _ fl_X9_69) (fun _ h9 => h9) rfl dX9_club_25 ?_
      refine lv_iload_n hx hb dX9_club_28 rfl (lv_at hl 1 rfl) ?_
      refine lv_iload_n hx hb dX9_club_29 rfl (lv_at hl 2 rfl) ?_
      refine mi_F (As := [.int (nI j), .int y]) (rest := []) ⟨hx, hb, hml, hown, hts⟩ (c_X0_changePaths l D cI cZ a k hk8 j hj y) (cw_X9_229 hts rfl rfl ⟨Nat.le_of_ble_eq_true rfl, Nat.le_of_ble_eq_true rfl⟩) hK (wP_cl hP) (wD_cl hD) hS (ci := 0) rfl rfl rfl hl.1 rfl (Nat.le_of_ble_eq_true rfl) dX9_club_30 ⟨Nat.zero_le _, Nat.zero_le _⟩ (fun r u H1 locs hp hP1 hk9 hS => ?_)
      obtain ⟨hP, hD⟩ := fX_cl hP hD (show va_P D vwCl (wCl a cI (jPs k j y)) H1 from hP1) hk9
      clear hP1 hk9
      generalize H1 = H at hP hS ⊢
      have hp : r = k.1 j := hp
      subst hp
      refine lv_goto (tgt := 38) hx hb dX9_club_33 (by decide) ?_
      exact mu_iret (v := (k.1 j)) hx hb hr hlocks ((jPs k j y)) (by show (((k.1 j) : Int32), (jPs k j y)) = jXclub N k x y; unfold jXclub; rw [ej, nI_cl (by omega)]; (first | rw [if_pos c_1] | rw [if_neg c_1] | skip); (first | rw [if_pos c_2] | rw [if_neg c_2] | skip)) (hP) hS dX9_club_38
  · skip
    have c_1 := zb_eq0 c_1
    refine lv_bipush (v := (-2)) hx hb dX9_club_7 (by decide) ?_
    exact mu_iret (v := (-2)) hx hb hr hlocks (k) (by show (((-2) : Int32), k) = jXclub N k x y; unfold jXclub; (first | rw [if_pos c_1] | rw [if_neg c_1] | skip)) (hP) hS dX9_club_9

def jXcolour (k : TC) (x y z : Int32) : Int32 × TC := if 0 ≤ x ∧ x ≤ 3 then if 0 ≤ y ∧ y ≤ 5 then if 0 ≤ z ∧ z ≤ 400 then if nI k.2.1 < 8 then (nI (k.2.1 + 1), jTc k x y z) else (-5, k) else (-3, k) else (-3, k) else (-2, k)
set_option maxHeartbeats 4000000 in
set_option maxRecDepth 100000 in
theorem c_X9_colour (l : Launch) (D : va_G) (cI cZ : ClassId) (a : Nat → Nat) (N : TN) (pb : Nat → Int32) (hN16 : N_n N ≤ 16) (S : TS) (sb : Nat → Int32) (q : TQ) (hS24 : S_n S ≤ 24) (w : Nat × (Nat → Int32) × Int32 × Int32) (hw : w.1 ≤ 31) (o : TO) (wy : Nat → Int32) (ho8 : o.1 ≤ 8) (ro : TR) (hr10 : ro.1 ≤ 10) (t : TT) (ht6 : t.1 ≤ 6) (zf : Nat → Nat) (hzf : ∀ i, i < t.1 → t.2.2.1 i = nI (zf i) ∧ zf i ≤ 6) (fo : TF) (tr be : Nat → Int32) (hf5 : fo.1 ≤ 5) (k : TC) (hk8 : k.2.1 ≤ 8) (x y z : Int32) : MI l D cI cZ yX9_colour wyX9_colour ({ frames := 2, cells := 0, slots := 0, locals := 44 } : Room) [.ref (a 0), .int x, .int y, .int z] (wX a cI N pb S sb q w o wy ro t fo tr be k) (fun r u => (r, u) = jXcolour k x y z) (fun (u : TC) => wX a cI N pb S sb q w o wy ro t fo tr be u) := by
  refine Met.ofW (cc := cX9_colour) (maxL := 4) (ret := (some .int)) (by decide) rfl ?_
  intro p e s m args below meth c s₁ B hml hv
  obtain ⟨rfl, hK, hP, hD0⟩ := hv
  have hx := B.exec
  have hb := B.bytes
  have hr := B.returns
  have hts0 := atoms_spec (ws := wyX9_colour) B.pre
  have hts : ∀ w ∈ big, w.before _ s = true := fun w h => hts0 w (List.mem_cons_of_mem _ h)
  have hown : s.vm.findClass RX9 = some m.cls := findClass_of_methodNamed B.named
  have hlocks := B.notSynchronized
  have hD := D_inW hD0
  have hS : va_S (inW (wX a cI N pb S sb q w o wy ro t fo tr be k)) s.heap s.heap [] := va_S.rf
  have hl := lv_entry ([.ref (a 0), .int x, .int y, .int z]) (n := 4) (Nat.le_of_ble_eq_true rfl)
  rw [lg_entry_eq]
  generalize (lg_sl ([.ref (a 0), .int x, .int y, .int z]) ++ List.replicate (4 - (lg_sl ([.ref (a 0), .int x, .int y, .int z])).length) Slot.unset).toArray = ls at hl ⊢
  have hl : lv_has ls 4 [(0, .ref (a 0)), (1, .int x), (2, .int y), (3, .int z)] := hl
  refine lv_iload_n hx hb dX9_colour_0 rfl (lv_at hl 1 rfl) ?_
  refine ro_S (As := [.int x]) (rest := []) ⟨hx, hb, hml, hown, hts⟩ (c_X9_isClub l D cI cZ  x) (cw_X9_223 hts rfl rfl ⟨Nat.le_of_ble_eq_true rfl, Nat.le_of_ble_eq_true rfl⟩) hK P_nil rfl hl.1 rfl (Nat.le_of_ble_eq_true rfl) dX9_colour_1 ⟨Nat.zero_le _, Nat.zero_le _⟩ ?_
  refine lv_if_ne (tgt := 10) hx hb dX9_colour_4 (by decide) (fun c_1 => ?_) (fun c_1 => ?_)
  · skip
    have c_1 := zb_ne0 c_1
    refine lv_iload_n hx hb dX9_colour_10 rfl (lv_at hl 2 rfl) ?_
    refine ro_S (As := [.int y]) (rest := []) ⟨hx, hb, hml, hown, hts⟩ (c_X9_isColour l D cI cZ  y) (cw_X9_232 hts rfl rfl ⟨Nat.le_of_ble_eq_true rfl, Nat.le_of_ble_eq_true rfl⟩) hK P_nil rfl hl.1 rfl (Nat.le_of_ble_eq_true rfl) dX9_colour_11 ⟨Nat.zero_le _, Nat.zero_le _⟩ ?_
    refine lv_if_eq (tgt := 28) hx hb dX9_colour_14 (by decide) (fun c_2 => ?_) (fun c_2 => ?_)
    · skip
      have c_2 := zb_eq0 c_2
      refine lv_bipush (v := (-3)) hx hb dX9_colour_28 (by decide) ?_
      exact mu_iret (v := (-3)) hx hb hr hlocks (k) (by show (((-3) : Int32), k) = jXcolour k x y z; unfold jXcolour; (first | rw [if_pos c_1] | rw [if_neg c_1] | skip); (first | rw [if_pos c_2] | rw [if_neg c_2] | skip)) (hP) hS dX9_colour_30
    · skip
      have c_2 := zb_ne0 c_2
      refine lv_iload_n hx hb dX9_colour_17 rfl (lv_at hl 3 rfl) ?_
      refine lv_iconst (v := 0) hx hb dX9_colour_18 (by decide) ?_
      refine lv_sipush (v := 400) hx hb dX9_colour_19 (by decide) ?_
      refine ro_S (As := [.int z, .int 0, .int 400]) (rest := []) ⟨hx, hb, hml, hown, hts⟩ (c_X9_isWithin l D cI cZ  z 0 400) (cw_X9_77 hts rfl rfl ⟨Nat.le_of_ble_eq_true rfl, Nat.le_of_ble_eq_true rfl⟩) hK P_nil rfl hl.1 rfl (Nat.le_of_ble_eq_true rfl) dX9_colour_22 ⟨Nat.zero_le _, Nat.zero_le _⟩ ?_
      refine lv_if_ne (tgt := 31) hx hb dX9_colour_25 (by decide) (fun c_3 => ?_) (fun c_3 => ?_)
      · skip
        have c_3 := zb_ne0 c_3
        refine lv_aload_n hx hb dX9_colour_31 rfl (lv_at hl 0 rfl) ?_
        refine va_get (D := D) (ci := 9) (v := .ref (a 50)) (C := RX9) (T := TX9) (N := 8) hx hb hts hin9 hown hK.1 hP 0 rfl rfl 7 (by decide) (hts _ fl_X9_69) (fun _ h9 => h9) rfl dX9_colour_32 ?_
        refine ro_V (As := []) (rest := []) ⟨hx, hb, hml, hown, hts⟩ (c_X0_toldColours l D cI cZ a k hk8) (cw_X9_235 hts rfl rfl ⟨Nat.le_of_ble_eq_true rfl, Nat.le_of_ble_eq_true rfl⟩) hK (wP_cl hP) (ci := 0) rfl rfl rfl hl.1 rfl (Nat.le_of_ble_eq_true rfl) dX9_colour_35 ⟨Nat.zero_le _, Nat.zero_le _⟩ ?_
        refine lv_bipush (v := 8) hx hb dX9_colour_38 (by decide) ?_
        refine lv_icmp_lt (tgt := 48) hx hb dX9_colour_40 (by decide) (fun c_4 => ?_) (fun c_4 => ?_)
        · skip
          have hb9 : k.2.1 < 8 := by have h9 := c_4; rw [show (8 : Int32) = nI 8 from rfl, nI_ltI (by omega) (by omega)] at h9; exact h9
          refine lv_aload_n hx hb dX9_colour_48 rfl (lv_at hl 0 rfl) ?_
          refine va_get (D := D) (ci := 9) (v := .ref (a 50)) (C := RX9) (T := TX9) (N := 8) hx hb hts hin9 hown hK.1 hP 0 rfl rfl 7 (by decide) (hts _ fl_X9_69) (fun _ h9 => h9) rfl dX9_colour_49 ?_
          refine lv_iload_n hx hb dX9_colour_52 rfl (lv_at hl 1 rfl) ?_
          refine lv_iload_n hx hb dX9_colour_53 rfl (lv_at hl 2 rfl) ?_
          refine lv_iload_n hx hb dX9_colour_54 rfl (lv_at hl 3 rfl) ?_
          refine mi_F (As := [.int x, .int y, .int z]) (rest := []) ⟨hx, hb, hml, hown, hts⟩ (c_X0_tellColour l D cI cZ a k hb9 x y z) (cw_X9_238 hts rfl rfl ⟨Nat.le_of_ble_eq_true rfl, Nat.le_of_ble_eq_true rfl⟩) hK (wP_cl hP) (wD_cl hD) hS (ci := 0) rfl rfl rfl hl.1 rfl (Nat.le_of_ble_eq_true rfl) dX9_colour_55 ⟨Nat.zero_le _, Nat.zero_le _⟩ (fun r u H1 locs hp hP1 hk9 hS => ?_)
          obtain ⟨hP, hD⟩ := fX_cl hP hD (show va_P D vwCl (wCl a cI (jTc k x y z)) H1 from hP1) hk9
          clear hP1 hk9
          generalize H1 = H at hP hS ⊢
          have hp : r = nI (k.2.1 + 1) := hp
          subst hp
          exact mu_iret (v := (nI (k.2.1 + 1))) hx hb hr hlocks ((jTc k x y z)) (by show (((nI (k.2.1 + 1)) : Int32), (jTc k x y z)) = jXcolour k x y z; unfold jXcolour; (first | rw [if_pos c_1] | rw [if_neg c_1] | skip); (first | rw [if_pos c_2] | rw [if_neg c_2] | skip); (first | rw [if_pos c_3] | rw [if_neg c_3] | skip); (first | rw [if_pos c_4] | rw [if_neg c_4] | skip)) (hP) hS dX9_colour_58
        · skip
          refine lv_bipush (v := (-5)) hx hb dX9_colour_43 (by decide) ?_
          refine lv_goto (tgt := 58) hx hb dX9_colour_45 (by decide) ?_
          exact mu_iret (v := (-5)) hx hb hr hlocks (k) (by show (((-5) : Int32), k) = jXcolour k x y z; unfold jXcolour; (first | rw [if_pos c_1] | rw [if_neg c_1] | skip); (first | rw [if_pos c_2] | rw [if_neg c_2] | skip); (first | rw [if_pos c_3] | rw [if_neg c_3] | skip); (first | rw [if_pos c_4] | rw [if_neg c_4] | skip)) (hP) hS dX9_colour_58
      · skip
        have c_3 := zb_eq0 c_3
        refine lv_bipush (v := (-3)) hx hb dX9_colour_28 (by decide) ?_
        exact mu_iret (v := (-3)) hx hb hr hlocks (k) (by show (((-3) : Int32), k) = jXcolour k x y z; unfold jXcolour; (first | rw [if_pos c_1] | rw [if_neg c_1] | skip); (first | rw [if_pos c_2] | rw [if_neg c_2] | skip); (first | rw [if_pos c_3] | rw [if_neg c_3] | skip)) (hP) hS dX9_colour_30
  · skip
    have c_1 := zb_eq0 c_1
    refine lv_bipush (v := (-2)) hx hb dX9_colour_7 (by decide) ?_
    exact mu_iret (v := (-2)) hx hb hr hlocks (k) (by show (((-2) : Int32), k) = jXcolour k x y z; unfold jXcolour; (first | rw [if_pos c_1] | rw [if_neg c_1] | skip)) (hP) hS dX9_colour_9

def jXwhose (N : TN) (k : TC) (x y z v : Int32) : Int32 := if 0 ≤ x ∧ x ≤ nI (N_n N) - 1 then if 0 ≤ y ∧ y ≤ 5 then if 0 ≤ z ∧ z ≤ 400 then if 0 ≤ v ∧ v ≤ 1 then if v = 1 then jOw k x y z 1 4 else jOw k x y z 0 4 else -3 else -3 else -3 else -2
set_option maxHeartbeats 4000000 in
set_option maxRecDepth 100000 in
theorem c_X9_whose (l : Launch) (D : va_G) (cI cZ : ClassId) (a : Nat → Nat) (N : TN) (pb : Nat → Int32) (hN16 : N_n N ≤ 16) (S : TS) (sb : Nat → Int32) (q : TQ) (hS24 : S_n S ≤ 24) (w : Nat × (Nat → Int32) × Int32 × Int32) (hw : w.1 ≤ 31) (o : TO) (wy : Nat → Int32) (ho8 : o.1 ≤ 8) (ro : TR) (hr10 : ro.1 ≤ 10) (t : TT) (ht6 : t.1 ≤ 6) (zf : Nat → Nat) (hzf : ∀ i, i < t.1 → t.2.2.1 i = nI (zf i) ∧ zf i ≤ 6) (fo : TF) (tr be : Nat → Int32) (hf5 : fo.1 ≤ 5) (k : TC) (hk8 : k.2.1 ≤ 8) (x y z v : Int32) : RO l D cI cZ yX9_whose wyX9_whose ({ frames := 4, cells := 0, slots := 0, locals := 94 } : Room) [.ref (a 0), .int x, .int y, .int z, .int v] (wX a cI N pb S sb q w o wy ro t fo tr be k) (jXwhose N k x y z v) := by
  refine Met.ofW (cc := cX9_whose) (maxL := 5) (ret := (some .int)) (by decide) rfl ?_
  intro p e s m args below meth c s₁ B hml hv
  obtain ⟨rfl, hK, hP⟩ := hv
  have hx := B.exec
  have hb := B.bytes
  have hr := B.returns
  have hts0 := atoms_spec (ws := wyX9_whose) B.pre
  have hts : ∀ w ∈ big, w.before _ s = true := fun w h => hts0 w (List.mem_cons_of_mem _ h)
  have hown : s.vm.findClass RX9 = some m.cls := findClass_of_methodNamed B.named
  have hlocks := B.notSynchronized
  have hl := lv_entry ([.ref (a 0), .int x, .int y, .int z, .int v]) (n := 5) (Nat.le_of_ble_eq_true rfl)
  rw [lg_entry_eq]
  generalize (lg_sl ([.ref (a 0), .int x, .int y, .int z, .int v]) ++ List.replicate (5 - (lg_sl ([.ref (a 0), .int x, .int y, .int z, .int v])).length) Slot.unset).toArray = ls at hl ⊢
  have hl : lv_has ls 5 [(0, .ref (a 0)), (1, .int x), (2, .int y), (3, .int z), (4, .int v)] := hl
  refine lv_iload_n hx hb dX9_whose_0 rfl (lv_at hl 1 rfl) ?_
  refine lv_iconst (v := 0) hx hb dX9_whose_1 (by decide) ?_
  refine lv_aload_n hx hb dX9_whose_2 rfl (lv_at hl 0 rfl) ?_
  refine va_get (D := D) (ci := 9) (v := .ref (a 1)) (C := RX9) (T := TX9) (N := 8) hx hb hts hin9 hown hK.1 hP 0 rfl rfl 0 (by decide) (hts _ fl_X9_10) (fun _ h9 => h9) rfl dX9_whose_3 ?_
  refine ro_V (As := []) (rest := [.int 0, .int x]) ⟨hx, hb, hml, hown, hts⟩ (c_X2_pathCount l D cI cZ a N pb hN16) (cw_X9_85 hts rfl rfl ⟨Nat.le_of_ble_eq_true rfl, Nat.le_of_ble_eq_true rfl⟩) hK (wP_net hP) (ci := 2) rfl rfl rfl hl.1 rfl (Nat.le_of_ble_eq_true rfl) dX9_whose_6 ⟨Nat.zero_le _, Nat.zero_le _⟩ ?_
  refine lv_iconst (v := 1) hx hb dX9_whose_9 (by decide) ?_
  refine lv_isub hx hb dX9_whose_10 ?_
  refine ro_S (As := [.int x, .int 0, .int ((nI (N_n N)) - 1)]) (rest := []) ⟨hx, hb, hml, hown, hts⟩ (c_X9_isWithin l D cI cZ  x 0 ((nI (N_n N)) - 1)) (cw_X9_77 hts rfl rfl ⟨Nat.le_of_ble_eq_true rfl, Nat.le_of_ble_eq_true rfl⟩) hK P_nil rfl hl.1 rfl (Nat.le_of_ble_eq_true rfl) dX9_whose_11 ⟨Nat.zero_le _, Nat.zero_le _⟩ ?_
  refine lv_if_ne (tgt := 20) hx hb dX9_whose_14 (by decide) (fun c_1 => ?_) (fun c_1 => ?_)
  · skip
    have c_1 := zb_ne0 c_1
    refine lv_iload_n hx hb dX9_whose_20 rfl (lv_at hl 2 rfl) ?_
    refine ro_S (As := [.int y]) (rest := []) ⟨hx, hb, hml, hown, hts⟩ (c_X9_isColour l D cI cZ  y) (cw_X9_232 hts rfl rfl ⟨Nat.le_of_ble_eq_true rfl, Nat.le_of_ble_eq_true rfl⟩) hK P_nil rfl hl.1 rfl (Nat.le_of_ble_eq_true rfl) dX9_whose_21 ⟨Nat.zero_le _, Nat.zero_le _⟩ ?_
    refine lv_if_eq (tgt := 48) hx hb dX9_whose_24 (by decide) (fun c_2 => ?_) (fun c_2 => ?_)
    · skip
      have c_2 := zb_eq0 c_2
      refine lv_bipush (v := (-3)) hx hb dX9_whose_48 (by decide) ?_
      exact ro_iret hx hb hr hlocks (by show ((-3) : Int32) = jXwhose N k x y z v; unfold jXwhose; (first | rw [if_pos c_1] | rw [if_neg c_1] | skip); (first | rw [if_pos c_2] | rw [if_neg c_2] | skip)) dX9_whose_50
    · skip
      have c_2 := zb_ne0 c_2
      refine lv_iload_n hx hb dX9_whose_27 rfl (lv_at hl 3 rfl) ?_
      refine lv_iconst (v := 0) hx hb dX9_whose_28 (by decide) ?_
      refine lv_sipush (v := 400) hx hb dX9_whose_29 (by decide) ?_
      refine ro_S (As := [.int z, .int 0, .int 400]) (rest := []) ⟨hx, hb, hml, hown, hts⟩ (c_X9_isWithin l D cI cZ  z 0 400) (cw_X9_77 hts rfl rfl ⟨Nat.le_of_ble_eq_true rfl, Nat.le_of_ble_eq_true rfl⟩) hK P_nil rfl hl.1 rfl (Nat.le_of_ble_eq_true rfl) dX9_whose_32 ⟨Nat.zero_le _, Nat.zero_le _⟩ ?_
      refine lv_if_eq (tgt := 48) hx hb dX9_whose_35 (by decide) (fun c_3 => ?_) (fun c_3 => ?_)
      · skip
        have c_3 := zb_eq0 c_3
        refine lv_bipush (v := (-3)) hx hb dX9_whose_48 (by decide) ?_
        exact ro_iret hx hb hr hlocks (by show ((-3) : Int32) = jXwhose N k x y z v; unfold jXwhose; (first | rw [if_pos c_1] | rw [if_neg c_1] | skip); (first | rw [if_pos c_2] | rw [if_neg c_2] | skip); (first | rw [if_pos c_3] | rw [if_neg c_3] | skip)) dX9_whose_50
      · skip
        have c_3 := zb_ne0 c_3
        refine lv_iload hx hb dX9_whose_38 (lv_at hl 4 rfl) ?_
        refine lv_iconst (v := 0) hx hb dX9_whose_40 (by decide) ?_
        refine lv_iconst (v := 1) hx hb dX9_whose_41 (by decide) ?_
        refine ro_S (As := [.int v, .int 0, .int 1]) (rest := []) ⟨hx, hb, hml, hown, hts⟩ (c_X9_isWithin l D cI cZ  v 0 1) (cw_X9_77 hts rfl rfl ⟨Nat.le_of_ble_eq_true rfl, Nat.le_of_ble_eq_true rfl⟩) hK P_nil rfl hl.1 rfl (Nat.le_of_ble_eq_true rfl) dX9_whose_42 ⟨Nat.zero_le _, Nat.zero_le _⟩ ?_
        refine lv_if_ne (tgt := 51) hx hb dX9_whose_45 (by decide) (fun c_4 => ?_) (fun c_4 => ?_)
        · skip
          have c_4 := zb_ne0 c_4
          refine lv_aload_n hx hb dX9_whose_51 rfl (lv_at hl 0 rfl) ?_
          refine va_get (D := D) (ci := 9) (v := .ref (a 50)) (C := RX9) (T := TX9) (N := 8) hx hb hts hin9 hown hK.1 hP 0 rfl rfl 7 (by decide) (hts _ fl_X9_69) (fun _ h9 => h9) rfl dX9_whose_52 ?_
          refine lv_iload_n hx hb dX9_whose_55 rfl (lv_at hl 1 rfl) ?_
          refine lv_iload_n hx hb dX9_whose_56 rfl (lv_at hl 2 rfl) ?_
          refine lv_iload_n hx hb dX9_whose_57 rfl (lv_at hl 3 rfl) ?_
          refine lv_iload hx hb dX9_whose_58 (lv_at hl 4 rfl) ?_
          refine lv_iconst (v := 1) hx hb dX9_whose_60 (by decide) ?_
          refine lv_icmp_ne (tgt := 68) hx hb dX9_whose_61 (by decide) (fun c_5 => ?_) (fun c_5 => ?_)
          · skip
            refine lv_iconst (v := 0) hx hb dX9_whose_68 (by decide) ?_
            refine ro_V (As := [.int x, .int y, .int z, .int 0]) (rest := []) ⟨hx, hb, hml, hown, hts⟩ (c_X0_ownersOf l D cI cZ a k hk8 x y z 0) (cw_X9_241 hts rfl rfl ⟨Nat.le_of_ble_eq_true rfl, Nat.le_of_ble_eq_true rfl⟩) hK (wP_cl hP) (ci := 0) rfl rfl rfl hl.1 rfl (Nat.le_of_ble_eq_true rfl) dX9_whose_69 ⟨Nat.zero_le _, Nat.zero_le _⟩ ?_
            exact ro_iret hx hb hr hlocks (by show ((jOw k x y z 0 4) : Int32) = jXwhose N k x y z v; unfold jXwhose; (first | rw [if_pos c_1] | rw [if_neg c_1] | skip); (first | rw [if_pos c_2] | rw [if_neg c_2] | skip); (first | rw [if_pos c_3] | rw [if_neg c_3] | skip); (first | rw [if_pos c_4] | rw [if_neg c_4] | skip); (first | rw [if_pos c_5] | rw [if_neg c_5] | skip)) dX9_whose_72
          · skip
            refine lv_iconst (v := 1) hx hb dX9_whose_64 (by decide) ?_
            refine lv_goto (tgt := 69) hx hb dX9_whose_65 (by decide) ?_
            refine ro_V (As := [.int x, .int y, .int z, .int 1]) (rest := []) ⟨hx, hb, hml, hown, hts⟩ (c_X0_ownersOf l D cI cZ a k hk8 x y z 1) (cw_X9_241 hts rfl rfl ⟨Nat.le_of_ble_eq_true rfl, Nat.le_of_ble_eq_true rfl⟩) hK (wP_cl hP) (ci := 0) rfl rfl rfl hl.1 rfl (Nat.le_of_ble_eq_true rfl) dX9_whose_69 ⟨Nat.zero_le _, Nat.zero_le _⟩ ?_
            exact ro_iret hx hb hr hlocks (by show ((jOw k x y z 1 4) : Int32) = jXwhose N k x y z v; unfold jXwhose; (first | rw [if_pos c_1] | rw [if_neg c_1] | skip); (first | rw [if_pos c_2] | rw [if_neg c_2] | skip); (first | rw [if_pos c_3] | rw [if_neg c_3] | skip); (first | rw [if_pos c_4] | rw [if_neg c_4] | skip); (first | rw [if_pos c_5] | rw [if_neg c_5] | skip)) dX9_whose_72
        · skip
          have c_4 := zb_eq0 c_4
          refine lv_bipush (v := (-3)) hx hb dX9_whose_48 (by decide) ?_
          exact ro_iret hx hb hr hlocks (by show ((-3) : Int32) = jXwhose N k x y z v; unfold jXwhose; (first | rw [if_pos c_1] | rw [if_neg c_1] | skip); (first | rw [if_pos c_2] | rw [if_neg c_2] | skip); (first | rw [if_pos c_3] | rw [if_neg c_3] | skip); (first | rw [if_pos c_4] | rw [if_neg c_4] | skip)) dX9_whose_50
  · skip
    have c_1 := zb_eq0 c_1
    refine lv_bipush (v := (-2)) hx hb dX9_whose_17 (by decide) ?_
    exact ro_iret hx hb hr hlocks (by show ((-2) : Int32) = jXwhose N k x y z v; unfold jXwhose; (first | rw [if_pos c_1] | rw [if_neg c_1] | skip)) dX9_whose_19

def jXcount (N : TN) (S : TS) (q : TQ) (o : TO) (ro : TR) (t : TT) (fo : TF) (x : Int32) : Int32 := if x = 0 then nI (N_n N) else if x = 1 then nI (S_n S) else if x = 2 then jCl S (S_n S) else if x = 3 then q.1 else if x = 4 then nI o.1 else if x = 5 then nI ro.1 else if x = 6 then nI t.1 else if x = 7 then nI fo.1 else -3
set_option maxHeartbeats 4000000 in
set_option maxRecDepth 100000 in
theorem c_X9_count (l : Launch) (D : va_G) (cI cZ : ClassId) (a : Nat → Nat) (N : TN) (pb : Nat → Int32) (hN16 : N_n N ≤ 16) (S : TS) (sb : Nat → Int32) (q : TQ) (hS24 : S_n S ≤ 24) (w : Nat × (Nat → Int32) × Int32 × Int32) (hw : w.1 ≤ 31) (o : TO) (wy : Nat → Int32) (ho8 : o.1 ≤ 8) (ro : TR) (hr10 : ro.1 ≤ 10) (t : TT) (ht6 : t.1 ≤ 6) (zf : Nat → Nat) (hzf : ∀ i, i < t.1 → t.2.2.1 i = nI (zf i) ∧ zf i ≤ 6) (fo : TF) (tr be : Nat → Int32) (hf5 : fo.1 ≤ 5) (k : TC) (hk8 : k.2.1 ≤ 8) (x : Int32) : RO l D cI cZ yX9_count wyX9_count ({ frames := 3, cells := 0, slots := 0, locals := 64 } : Room) [.ref (a 0), .int x] (wX a cI N pb S sb q w o wy ro t fo tr be k) (jXcount N S q o ro t fo x) := by
  refine Met.ofW (cc := cX9_count) (maxL := 2) (ret := (some .int)) (by decide) rfl ?_
  intro p e s m args below meth c s₁ B hml hv
  obtain ⟨rfl, hK, hP⟩ := hv
  have hx := B.exec
  have hb := B.bytes
  have hr := B.returns
  have hts0 := atoms_spec (ws := wyX9_count) B.pre
  have hts : ∀ w ∈ big, w.before _ s = true := fun w h => hts0 w (List.mem_cons_of_mem _ h)
  have hown : s.vm.findClass RX9 = some m.cls := findClass_of_methodNamed B.named
  have hlocks := B.notSynchronized
  have hl := lv_entry ([.ref (a 0), .int x]) (n := 2) (Nat.le_of_ble_eq_true rfl)
  rw [lg_entry_eq]
  generalize (lg_sl ([.ref (a 0), .int x]) ++ List.replicate (2 - (lg_sl ([.ref (a 0), .int x])).length) Slot.unset).toArray = ls at hl ⊢
  have hl : lv_has ls 2 [(0, .ref (a 0)), (1, .int x)] := hl
  refine lv_iload_n hx hb dX9_count_0 rfl (lv_at hl 1 rfl) ?_
  by_cases c_1_0 : x = 0
  · skip
    refine lv_tableIn (off := 47) (tgt := 48) hx hb dX9_count_1 (by rw [c_1_0]; decide) (by rw [c_1_0]; decide) (by rw [c_1_0]; decide) (by decide) ?_
    refine lv_aload_n hx hb dX9_count_48 rfl (lv_at hl 0 rfl) ?_
    refine va_get (D := D) (ci := 9) (v := .ref (a 1)) (C := RX9) (T := TX9) (N := 8) hx hb hts hin9 hown hK.1 hP 0 rfl rfl 0 (by decide) (hts _ fl_X9_10) (fun _ h9 => h9) rfl dX9_count_49 ?_
    refine ro_V (As := []) (rest := []) ⟨hx, hb, hml, hown, hts⟩ (c_X2_pathCount l D cI cZ a N pb hN16) (cw_X9_85 hts rfl rfl ⟨Nat.le_of_ble_eq_true rfl, Nat.le_of_ble_eq_true rfl⟩) hK (wP_net hP) (ci := 2) rfl rfl rfl hl.1 rfl (Nat.le_of_ble_eq_true rfl) dX9_count_52 ⟨Nat.zero_le _, Nat.zero_le _⟩ ?_
    exact ro_iret hx hb hr hlocks (by unfold jXcount; simp [c_1_0]) dX9_count_55
  by_cases c_1_1 : x = 1
  · skip
    refine lv_tableIn (off := 55) (tgt := 56) hx hb dX9_count_1 (by rw [c_1_1]; decide) (by rw [c_1_1]; decide) (by rw [c_1_1]; decide) (by decide) ?_
    refine lv_aload_n hx hb dX9_count_56 rfl (lv_at hl 0 rfl) ?_
    refine va_get (D := D) (ci := 9) (v := .ref (a 10)) (C := RX9) (T := TX9) (N := 8) hx hb hts hin9 hown hK.1 hP 0 rfl rfl 1 (by decide) (hts _ fl_X9_21) (fun _ h9 => h9) rfl dX9_count_57 ?_
    refine ro_V (As := []) (rest := []) ⟨hx, hb, hml, hown, hts⟩ (c_X6_signCount l D cI cZ a S sb q hS24) (cw_X9_116 hts rfl rfl ⟨Nat.le_of_ble_eq_true rfl, Nat.le_of_ble_eq_true rfl⟩) hK (wP_sg hP) (ci := 6) rfl rfl rfl hl.1 rfl (Nat.le_of_ble_eq_true rfl) dX9_count_60 ⟨Nat.zero_le _, Nat.zero_le _⟩ ?_
    exact ro_iret hx hb hr hlocks (by unfold jXcount; simp [c_1_1, c_1_0]) dX9_count_63
  by_cases c_1_2 : x = 2
  · skip
    refine lv_tableIn (off := 63) (tgt := 64) hx hb dX9_count_1 (by rw [c_1_2]; decide) (by rw [c_1_2]; decide) (by rw [c_1_2]; decide) (by decide) ?_
    refine lv_aload_n hx hb dX9_count_64 rfl (lv_at hl 0 rfl) ?_
    refine va_get (D := D) (ci := 9) (v := .ref (a 10)) (C := RX9) (T := TX9) (N := 8) hx hb hts hin9 hown hK.1 hP 0 rfl rfl 1 (by decide) (hts _ fl_X9_21) (fun _ h9 => h9) rfl dX9_count_65 ?_
    refine ro_V (As := []) (rest := []) ⟨hx, hb, hml, hown, hts⟩ (c_X6_countLeft l D cI cZ a S sb q hS24) (cw_X9_245 hts rfl rfl ⟨Nat.le_of_ble_eq_true rfl, Nat.le_of_ble_eq_true rfl⟩) hK (wP_sg hP) (ci := 6) rfl rfl rfl hl.1 rfl (Nat.le_of_ble_eq_true rfl) dX9_count_68 ⟨Nat.zero_le _, Nat.zero_le _⟩ ?_
    exact ro_iret hx hb hr hlocks (by unfold jXcount; simp [c_1_2, c_1_0, c_1_1]) dX9_count_71
  by_cases c_1_3 : x = 3
  · skip
    refine lv_tableIn (off := 71) (tgt := 72) hx hb dX9_count_1 (by rw [c_1_3]; decide) (by rw [c_1_3]; decide) (by rw [c_1_3]; decide) (by decide) ?_
    refine lv_aload_n hx hb dX9_count_72 rfl (lv_at hl 0 rfl) ?_
    refine va_get (D := D) (ci := 9) (v := .ref (a 10)) (C := RX9) (T := TX9) (N := 8) hx hb hts hin9 hown hK.1 hP 0 rfl rfl 1 (by decide) (hts _ fl_X9_21) (fun _ h9 => h9) rfl dX9_count_73 ?_
    refine ro_V (As := []) (rest := []) ⟨hx, hb, hml, hown, hts⟩ (c_X6_today l D cI cZ a S sb q hS24) (cw_X9_97 hts rfl rfl ⟨Nat.le_of_ble_eq_true rfl, Nat.le_of_ble_eq_true rfl⟩) hK (wP_sg hP) (ci := 6) rfl rfl rfl hl.1 rfl (Nat.le_of_ble_eq_true rfl) dX9_count_76 ⟨Nat.zero_le _, Nat.zero_le _⟩ ?_
    exact ro_iret hx hb hr hlocks (by unfold jXcount; simp [c_1_3, c_1_0, c_1_1, c_1_2]) dX9_count_79
  by_cases c_1_4 : x = 4
  · skip
    refine lv_tableIn (off := 79) (tgt := 80) hx hb dX9_count_1 (by rw [c_1_4]; decide) (by rw [c_1_4]; decide) (by rw [c_1_4]; decide) (by decide) ?_
    refine lv_aload_n hx hb dX9_count_80 rfl (lv_at hl 0 rfl) ?_
    refine va_get (D := D) (ci := 9) (v := .ref (a 28)) (C := RX9) (T := TX9) (N := 8) hx hb hts hin9 hown hK.1 hP 0 rfl rfl 3 (by decide) (hts _ fl_X9_37) (fun _ h9 => h9) rfl dX9_count_81 ?_
    refine ro_V (As := []) (rest := []) ⟨hx, hb, hml, hown, hts⟩ (c_X3_noteCount l D cI cZ a o wy ho8) (cw_X9_162 hts rfl rfl ⟨Nat.le_of_ble_eq_true rfl, Nat.le_of_ble_eq_true rfl⟩) hK (wP_nt1 hP) (ci := 3) rfl rfl rfl hl.1 rfl (Nat.le_of_ble_eq_true rfl) dX9_count_84 ⟨Nat.zero_le _, Nat.zero_le _⟩ ?_
    exact ro_iret hx hb hr hlocks (by unfold jXcount; simp [c_1_4, c_1_0, c_1_1, c_1_2, c_1_3]) dX9_count_87
  by_cases c_1_5 : x = 5
  · skip
    refine lv_tableIn (off := 87) (tgt := 88) hx hb dX9_count_1 (by rw [c_1_5]; decide) (by rw [c_1_5]; decide) (by rw [c_1_5]; decide) (by decide) ?_
    refine lv_aload_n hx hb dX9_count_88 rfl (lv_at hl 0 rfl) ?_
    refine va_get (D := D) (ci := 9) (v := .ref (a 33)) (C := RX9) (T := TX9) (N := 8) hx hb hts hin9 hown hK.1 hP 0 rfl rfl 4 (by decide) (hts _ fl_X9_46) (fun _ h9 => h9) rfl dX9_count_89 ?_
    refine ro_V (As := []) (rest := []) ⟨hx, hb, hml, hown, hts⟩ (c_X4_placeCount l D cI cZ a ro hr10) (cw_X9_180 hts rfl rfl ⟨Nat.le_of_ble_eq_true rfl, Nat.le_of_ble_eq_true rfl⟩) hK (wP_rt hP) (ci := 4) rfl rfl rfl hl.1 rfl (Nat.le_of_ble_eq_true rfl) dX9_count_92 ⟨Nat.zero_le _, Nat.zero_le _⟩ ?_
    exact ro_iret hx hb hr hlocks (by unfold jXcount; simp [c_1_5, c_1_0, c_1_1, c_1_2, c_1_3, c_1_4]) dX9_count_95
  by_cases c_1_6 : x = 6
  · skip
    refine lv_tableIn (off := 95) (tgt := 96) hx hb dX9_count_1 (by rw [c_1_6]; decide) (by rw [c_1_6]; decide) (by rw [c_1_6]; decide) (by decide) ?_
    refine lv_aload_n hx hb dX9_count_96 rfl (lv_at hl 0 rfl) ?_
    refine va_get (D := D) (ci := 9) (v := .ref (a 36)) (C := RX9) (T := TX9) (N := 8) hx hb hts hin9 hown hK.1 hP 0 rfl rfl 5 (by decide) (hts _ fl_X9_55) (fun _ h9 => h9) rfl dX9_count_97 ?_
    refine ro_V (As := []) (rest := []) ⟨hx, hb, hml, hown, hts⟩ (c_X7_trailCount l D cI cZ a t ht6) (cw_X9_190 hts rfl rfl ⟨Nat.le_of_ble_eq_true rfl, Nat.le_of_ble_eq_true rfl⟩) hK (wP_tr hP) (ci := 7) rfl rfl rfl hl.1 rfl (Nat.le_of_ble_eq_true rfl) dX9_count_100 ⟨Nat.zero_le _, Nat.zero_le _⟩ ?_
    exact ro_iret hx hb hr hlocks (by unfold jXcount; simp [c_1_6, c_1_0, c_1_1, c_1_2, c_1_3, c_1_4, c_1_5]) dX9_count_103
  by_cases c_1_7 : x = 7
  · skip
    refine lv_tableIn (off := 103) (tgt := 104) hx hb dX9_count_1 (by rw [c_1_7]; decide) (by rw [c_1_7]; decide) (by rw [c_1_7]; decide) (by decide) ?_
    refine lv_aload_n hx hb dX9_count_104 rfl (lv_at hl 0 rfl) ?_
    refine va_get (D := D) (ci := 9) (v := .ref (a 43)) (C := RX9) (T := TX9) (N := 8) hx hb hts hin9 hown hK.1 hP 0 rfl rfl 6 (by decide) (hts _ fl_X9_62) (fun _ h9 => h9) rfl dX9_count_105 ?_
    refine ro_V (As := []) (rest := []) ⟨hx, hb, hml, hown, hts⟩ (c_X1_branchCount l D cI cZ a fo tr be hf5) (cw_X9_207 hts rfl rfl ⟨Nat.le_of_ble_eq_true rfl, Nat.le_of_ble_eq_true rfl⟩) hK (wP_fk hP) (ci := 1) rfl rfl rfl hl.1 rfl (Nat.le_of_ble_eq_true rfl) dX9_count_108 ⟨Nat.zero_le _, Nat.zero_le _⟩ ?_
    exact ro_iret hx hb hr hlocks (by unfold jXcount; simp [c_1_7, c_1_0, c_1_1, c_1_2, c_1_3, c_1_4, c_1_5, c_1_6]) dX9_count_111
  refine lv_tableOut (tgt := 112) hx hb dX9_count_1 (zt_out07 x c_1_0 c_1_1 c_1_2 c_1_3 c_1_4 c_1_5 c_1_6 c_1_7) (by decide) ?_
  refine lv_bipush (v := (-3)) hx hb dX9_count_112 (by decide) ?_
  exact ro_iret hx hb hr hlocks (by unfold jXcount; simp [c_1_0, c_1_1, c_1_2, c_1_3, c_1_4, c_1_5, c_1_6, c_1_7]) dX9_count_114
