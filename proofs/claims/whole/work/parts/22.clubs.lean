def jHu (k : TC) (c d : Int32) : Nat → Int32 × Int32
  | 0 => (-1, 0)
  | i + 1 => if k.2.2.1 i = c ∧ k.2.2.2.2 i ≤ d ∧ (jHu k c d i).2 ≤ k.2.2.2.2 i then (k.2.2.2.1 i, k.2.2.2.2 i) else jHu k c d i
def jHd (k : TC) (c h d : Int32) : Bool := anyB (fun i => decide (k.2.2.1 i = c ∧ k.2.2.2.1 i = h ∧ k.2.2.2.2 i ≤ d)) k.2.1
def jHas (k : TC) (h d : Int32) (i : Nat) : Bool := decide ((jHu k (nI i) d k.2.1).1 = h)
def jMay (k : TC) (h d w : Int32) (i : Nat) : Bool := decide (if w = 0 then jHas k h d i = true else jHas k h d i = false ∧ jHd k (nI i) h d = true)
def jOw (k : TC) (x h d w : Int32) : Nat → Int32
  | 0 => 0
  | i + 1 => if jMay k h d w i = true ∧ ¬ (k.1 i &&& zbt x) = 0 then jOw k x h d w i ||| ((1 : Int32) <<< (nI i &&& 31)) else jOw k x h d w i
abbrev jPs (k : TC) (c : Nat) (x : Int32) : TC := (upd k.1 c x, k.2.1, k.2.2.1, k.2.2.2.1, k.2.2.2.2)
abbrev jTc (k : TC) (x y z : Int32) : TC := (k.1, k.2.1 + 1, upd k.2.2.1 k.2.1 x, upd k.2.2.2.1 k.2.1 y, upd k.2.2.2.2 k.2.1 z)
set_option maxHeartbeats 4000000 in
set_option maxRecDepth 100000 in
theorem c_X0_toldColours (l : Launch) (D : va_G) (cI cZ : ClassId) (a : Nat → Nat) (k : TC) (hk8 : k.2.1 ≤ 8) : RO l D cI cZ yX0_toldColours wyX0_toldColours ({ frames := 1, cells := 0, slots := 0, locals := 20 } : Room) [.ref (a 50)] (wCl a cI k) (nI k.2.1) := by
  refine Met.ofW (cc := cX0_toldColours) (maxL := 1) (ret := (some .int)) (by decide) rfl ?_
  intro p e s m args below meth c s₁ B hml hv
  obtain ⟨rfl, hK, hP⟩ := hv
  have hx := B.exec
  have hb := B.bytes
  have hr := B.returns
  have hts0 := atoms_spec (ws := wyX0_toldColours) B.pre
  have hts : ∀ w ∈ big, w.before _ s = true := fun w h => hts0 w (List.mem_cons_of_mem _ h)
  have hown : s.vm.findClass RX0 = some m.cls := findClass_of_methodNamed B.named
  have hlocks := B.notSynchronized
  have hl := lv_entry ([.ref (a 50)]) (n := 1) (Nat.le_of_ble_eq_true rfl)
  rw [lg_entry_eq]
  generalize (lg_sl ([.ref (a 50)]) ++ List.replicate (1 - (lg_sl ([.ref (a 50)])).length) Slot.unset).toArray = ls at hl ⊢
  have hl : lv_has ls 1 [(0, .ref (a 50))] := hl
  refine lv_aload_n hx hb dX0_toldColours_0 rfl (lv_at hl 0 rfl) ?_
  refine va_get (D := D) (ci := 0) (v := .ref (a 53)) (C := RX0) (T := TX0) (N := 4) hx hb hts hin0 hown hK.1 hP 0 rfl rfl 1 (by decide) (hts _ fl_X0_24) (fun _ h9 => h9) rfl dX0_toldColours_1 ?_
  refine ro_V (As := []) (rest := []) ⟨hx, hb, hml, hown, hts⟩ (c_X5_size l D cI cZ (a 53) (a 54) 8 (k.2.1) (k.2.2.1) hk8 (by decide)) (cw_X0_41 hts rfl rfl ⟨Nat.le_of_ble_eq_true rfl, Nat.le_of_ble_eq_true rfl⟩) hK (hP.sub [3, 4] rfl) (ci := 5) rfl rfl rfl hl.1 rfl (Nat.le_of_ble_eq_true rfl) dX0_toldColours_4 ⟨Nat.zero_le _, Nat.zero_le _⟩ ?_
  exact ro_iret hx hb hr hlocks (rfl) dX0_toldColours_7

set_option maxHeartbeats 4000000 in
set_option maxRecDepth 100000 in
theorem c_X0_changePaths (l : Launch) (D : va_G) (cI cZ : ClassId) (a : Nat → Nat) (k : TC) (hk8 : k.2.1 ≤ 8) (c2 : Nat) (hc : c2 < 4) (x : Int32) : MI l D cI cZ yX0_changePaths wyX0_changePaths ({ frames := 1, cells := 0, slots := 0, locals := 22 } : Room) [.ref (a 50), .int (nI c2), .int x] (wCl a cI k) (fun r _ => r = k.1 c2) (fun (_ : Unit) => wCl a cI (jPs k c2 x)) := by
  refine Met.ofW (cc := cX0_changePaths) (maxL := 4) (ret := (some .int)) (by decide) rfl ?_
  intro p e s m args below meth c s₁ B hml hv
  obtain ⟨rfl, hK, hP, hD0⟩ := hv
  have hx := B.exec
  have hb := B.bytes
  have hr := B.returns
  have hts0 := atoms_spec (ws := wyX0_changePaths) B.pre
  have hts : ∀ w ∈ big, w.before _ s = true := fun w h => hts0 w (List.mem_cons_of_mem _ h)
  have hown : s.vm.findClass RX0 = some m.cls := findClass_of_methodNamed B.named
  have hlocks := B.notSynchronized
  have hD := D_inW hD0
  have hS : va_S (inW (wCl a cI k)) s.heap s.heap [] := va_S.rf
  have hl := lv_entry ([.ref (a 50), .int (nI c2), .int x]) (n := 4) (Nat.le_of_ble_eq_true rfl)
  rw [lg_entry_eq]
  generalize (lg_sl ([.ref (a 50), .int (nI c2), .int x]) ++ List.replicate (4 - (lg_sl ([.ref (a 50), .int (nI c2), .int x])).length) Slot.unset).toArray = ls at hl ⊢
  have hl : lv_has ls 4 [(0, .ref (a 50)), (1, .int (nI c2)), (2, .int x)] := hl
  refine lv_aload_n hx hb dX0_changePaths_0 rfl (lv_at hl 0 rfl) ?_
  refine va_get (D := D) (ci := 0) (v := .ref (a 51)) (C := RX0) (T := TX0) (N := 4) hx hb hts hin0 hown hK.1 hP 0 rfl rfl 0 (by decide) (hts _ fl_X0_20) (fun _ h9 => h9) rfl dX0_changePaths_1 ?_
  refine lv_iload_n hx hb dX0_changePaths_4 rfl (lv_at hl 1 rfl) ?_
  refine ro_V (As := [.int (nI c2)]) (rest := []) ⟨hx, hb, hml, hown, hts⟩ (c_X5_get l D cI cZ (a 51) (a 52) 4 4 (k.1) (by decide) (by decide) (nI c2)) (cw_X0_33 hts rfl rfl ⟨Nat.le_of_ble_eq_true rfl, Nat.le_of_ble_eq_true rfl⟩) hK (hP.sub [1, 2] rfl) (ci := 5) rfl rfl rfl hl.1 rfl (Nat.le_of_ble_eq_true rfl) dX0_changePaths_5 ⟨Nat.zero_le _, Nat.zero_le _⟩ ?_
  rw [rg_in hc (show 4 < 2 ^ 31 by have := True.intro; omega)]
  refine lv_istore_n (lv' := [(3, .int ((k.1) c2)), (0, .ref (a 50)), (1, .int (nI c2)), (2, .int x)]) hx hb dX0_changePaths_8 rfl hl (by decide) rfl (fun ls hl => ?_)
  refine lv_aload_n hx hb dX0_changePaths_9 rfl (lv_at hl 1 rfl) ?_
  refine va_get (D := D) (ci := 0) (v := .ref (a 51)) (C := RX0) (T := TX0) (N := 4) hx hb hts hin0 hown hK.1 hP 0 rfl rfl 0 (by decide) (hts _ fl_X0_20) (fun _ h9 => h9) rfl dX0_changePaths_10 ?_
  refine lv_iload_n hx hb dX0_changePaths_13 rfl (lv_at hl 2 rfl) ?_
  refine lv_iload_n hx hb dX0_changePaths_14 rfl (lv_at hl 3 rfl) ?_
  refine mv_V2 (As := [.int (nI c2), .int x]) (rest := []) ⟨hx, hb, hml, hown, hts⟩ (c_X5_put l D cI cZ (a 51) (a 52) 4 4 (k.1) (by decide) (by decide) (nI c2) x) (cw_X0_37 hts rfl rfl ⟨Nat.le_of_ble_eq_true rfl, Nat.le_of_ble_eq_true rfl⟩) hK hP hD hS 9 rfl [1, 2] [0, 3, 4, 5, 6, 7, 8] (fun (_ : Unit) => ([((a 50), .inr (0, [.ref (a 51), .ref (a 53), .ref (a 55), .ref (a 57)])), ((a 51), .inr (5, [.ref (a 52), .int (nI 4)])), ((a 52), .inl (cI, (4, .inl (rp 4 (k.1) (nI c2) x)))), ((a 53), .inr (5, [.ref (a 54), .int (nI (k.2.1))])), ((a 54), .inl (cI, (8, .inl (k.2.2.1)))), ((a 55), .inr (5, [.ref (a 56), .int (nI (k.2.1))])), ((a 56), .inl (cI, (8, .inl (k.2.2.2.1)))), ((a 57), .inr (5, [.ref (a 58), .int (nI (k.2.1))])), ((a 58), .inl (cI, (8, .inl (k.2.2.2.2))))] : va_W)) rfl (by decide) (fun u => rfl) [(a 51), (a 52)] rfl (fun u => rfl) ([((a 50), .inr (0, [.ref (a 51), .ref (a 53), .ref (a 55), .ref (a 57)])), ((a 53), .inr (5, [.ref (a 54), .int (nI (k.2.1))])), ((a 54), .inl (cI, (8, .inl (k.2.2.1)))), ((a 55), .inr (5, [.ref (a 56), .int (nI (k.2.1))])), ((a 56), .inl (cI, (8, .inl (k.2.2.2.1)))), ((a 57), .inr (5, [.ref (a 58), .int (nI (k.2.1))])), ((a 58), .inl (cI, (8, .inl (k.2.2.2.2))))] : va_W) rfl (fun u => rfl) [(a 50), (a 51), (a 52), (a 53), (a 54), (a 55), (a 56), (a 57), (a 58)] rfl (fun u => rfl) (by decide) (by decide) (by decide) (ci := 5) rfl rfl rfl hl.1 rfl (Nat.le_of_ble_eq_true rfl) dX0_changePaths_15 ⟨Nat.zero_le _, Nat.zero_le _⟩ (fun u H locs hp hP hD hS => ?_)
  have hrp : rp 4 (k.1) (nI c2) x = upd (k.1) c2 x := rp_in hc (by decide)
  rw [hrp] at hP hD
  clear hrp
  have hP : va_P D vwCl (([((a 50), .inr (0, [.ref (a 51), .ref (a 53), .ref (a 55), .ref (a 57)])), ((a 51), .inr (5, [.ref (a 52), .int (nI 4)])), ((a 52), .inl (cI, (4, .inl (upd (k.1) c2 x)))), ((a 53), .inr (5, [.ref (a 54), .int (nI (k.2.1))])), ((a 54), .inl (cI, (8, .inl (k.2.2.1)))), ((a 55), .inr (5, [.ref (a 56), .int (nI (k.2.1))])), ((a 56), .inl (cI, (8, .inl (k.2.2.2.1)))), ((a 57), .inr (5, [.ref (a 58), .int (nI (k.2.1))])), ((a 58), .inl (cI, (8, .inl (k.2.2.2.2))))] : va_W)) H := hP
  have hD : va_D _ (([((a 50), .inr (0, [.ref (a 51), .ref (a 53), .ref (a 55), .ref (a 57)])), ((a 51), .inr (5, [.ref (a 52), .int (nI 4)])), ((a 52), .inl (cI, (4, .inl (upd (k.1) c2 x)))), ((a 53), .inr (5, [.ref (a 54), .int (nI (k.2.1))])), ((a 54), .inl (cI, (8, .inl (k.2.2.1)))), ((a 55), .inr (5, [.ref (a 56), .int (nI (k.2.1))])), ((a 56), .inl (cI, (8, .inl (k.2.2.2.1)))), ((a 57), .inr (5, [.ref (a 58), .int (nI (k.2.1))])), ((a 58), .inl (cI, (8, .inl (k.2.2.2.2))))] : va_W)) := hD
  refine lv_iload_n hx hb dX0_changePaths_18 rfl (lv_at hl 0 rfl) ?_
  exact mu_iret (v := ((k.1) c2)) hx hb hr hlocks (()) (rfl) (hP) hS dX0_changePaths_19

set_option maxHeartbeats 4000000 in
set_option maxRecDepth 100000 in
theorem c_X0_tellColour (l : Launch) (D : va_G) (cI cZ : ClassId) (a : Nat → Nat) (k : TC) (hk8 : k.2.1 < 8) (x y z : Int32) : MI l D cI cZ yX0_tellColour wyX0_tellColour ({ frames := 1, cells := 0, slots := 0, locals := 21 } : Room) [.ref (a 50), .int x, .int y, .int z] (wCl a cI k) (fun r _ => r = nI (k.2.1 + 1)) (fun (_ : Unit) => wCl a cI (jTc k x y z)) := by
  refine Met.ofW (cc := cX0_tellColour) (maxL := 4) (ret := (some .int)) (by decide) rfl ?_
  intro p e s m args below meth c s₁ B hml hv
  obtain ⟨rfl, hK, hP, hD0⟩ := hv
  have hx := B.exec
  have hb := B.bytes
  have hr := B.returns
  have hts0 := atoms_spec (ws := wyX0_tellColour) B.pre
  have hts : ∀ w ∈ big, w.before _ s = true := fun w h => hts0 w (List.mem_cons_of_mem _ h)
  have hown : s.vm.findClass RX0 = some m.cls := findClass_of_methodNamed B.named
  have hlocks := B.notSynchronized
  have hD := D_inW hD0
  have hS : va_S (inW (wCl a cI k)) s.heap s.heap [] := va_S.rf
  have hl := lv_entry ([.ref (a 50), .int x, .int y, .int z]) (n := 4) (Nat.le_of_ble_eq_true rfl)
  rw [lg_entry_eq]
  generalize (lg_sl ([.ref (a 50), .int x, .int y, .int z]) ++ List.replicate (4 - (lg_sl ([.ref (a 50), .int x, .int y, .int z])).length) Slot.unset).toArray = ls at hl ⊢
  have hl : lv_has ls 4 [(0, .ref (a 50)), (1, .int x), (2, .int y), (3, .int z)] := hl
  refine lv_aload_n hx hb dX0_tellColour_0 rfl (lv_at hl 0 rfl) ?_
  refine va_get (D := D) (ci := 0) (v := .ref (a 55)) (C := RX0) (T := TX0) (N := 4) hx hb hts hin0 hown hK.1 hP 0 rfl rfl 2 (by decide) (hts _ fl_X0_27) (fun _ h9 => h9) rfl dX0_tellColour_1 ?_
  refine lv_iload_n hx hb dX0_tellColour_4 rfl (lv_at hl 2 rfl) ?_
  refine mi_V2 (As := [.int y]) (rest := []) ⟨hx, hb, hml, hown, hts⟩ (c_X5_push l D cI cZ (a 55) (a 56) 8 (k.2.1) (k.2.2.2.1) hk8 (by decide) y) (cw_X0_45 hts rfl rfl ⟨Nat.le_of_ble_eq_true rfl, Nat.le_of_ble_eq_true rfl⟩) hK hP hD hS 9 rfl [5, 6] [0, 1, 2, 3, 4, 7, 8] (fun (_ : Unit) => ([((a 50), .inr (0, [.ref (a 51), .ref (a 53), .ref (a 55), .ref (a 57)])), ((a 51), .inr (5, [.ref (a 52), .int (nI 4)])), ((a 52), .inl (cI, (4, .inl (k.1)))), ((a 53), .inr (5, [.ref (a 54), .int (nI (k.2.1))])), ((a 54), .inl (cI, (8, .inl (k.2.2.1)))), ((a 55), .inr (5, [.ref (a 56), .int (nI ((k.2.1) + 1))])), ((a 56), .inl (cI, (8, .inl (upd (k.2.2.2.1) (k.2.1) y)))), ((a 57), .inr (5, [.ref (a 58), .int (nI (k.2.1))])), ((a 58), .inl (cI, (8, .inl (k.2.2.2.2))))] : va_W)) rfl (by decide) (fun u => rfl) [(a 55), (a 56)] rfl (fun u => rfl) ([((a 50), .inr (0, [.ref (a 51), .ref (a 53), .ref (a 55), .ref (a 57)])), ((a 51), .inr (5, [.ref (a 52), .int (nI 4)])), ((a 52), .inl (cI, (4, .inl (k.1)))), ((a 53), .inr (5, [.ref (a 54), .int (nI (k.2.1))])), ((a 54), .inl (cI, (8, .inl (k.2.2.1)))), ((a 57), .inr (5, [.ref (a 58), .int (nI (k.2.1))])), ((a 58), .inl (cI, (8, .inl (k.2.2.2.2))))] : va_W) rfl (fun u => rfl) [(a 50), (a 51), (a 52), (a 53), (a 54), (a 55), (a 56), (a 57), (a 58)] rfl (fun u => rfl) (by decide) (by decide) (by decide) (ci := 5) rfl rfl rfl hl.1 rfl (Nat.le_of_ble_eq_true rfl) dX0_tellColour_5 ⟨Nat.zero_le _, Nat.zero_le _⟩ (fun r u H locs hp hP hD hS => ?_)
  have hp : r = nI ((k.2.1) + 1) := hp
  subst hp
  have hP : va_P D vwCl (([((a 50), .inr (0, [.ref (a 51), .ref (a 53), .ref (a 55), .ref (a 57)])), ((a 51), .inr (5, [.ref (a 52), .int (nI 4)])), ((a 52), .inl (cI, (4, .inl (k.1)))), ((a 53), .inr (5, [.ref (a 54), .int (nI (k.2.1))])), ((a 54), .inl (cI, (8, .inl (k.2.2.1)))), ((a 55), .inr (5, [.ref (a 56), .int (nI ((k.2.1) + 1))])), ((a 56), .inl (cI, (8, .inl (upd (k.2.2.2.1) (k.2.1) y)))), ((a 57), .inr (5, [.ref (a 58), .int (nI (k.2.1))])), ((a 58), .inl (cI, (8, .inl (k.2.2.2.2))))] : va_W)) H := hP
  have hD : va_D _ (([((a 50), .inr (0, [.ref (a 51), .ref (a 53), .ref (a 55), .ref (a 57)])), ((a 51), .inr (5, [.ref (a 52), .int (nI 4)])), ((a 52), .inl (cI, (4, .inl (k.1)))), ((a 53), .inr (5, [.ref (a 54), .int (nI (k.2.1))])), ((a 54), .inl (cI, (8, .inl (k.2.2.1)))), ((a 55), .inr (5, [.ref (a 56), .int (nI ((k.2.1) + 1))])), ((a 56), .inl (cI, (8, .inl (upd (k.2.2.2.1) (k.2.1) y)))), ((a 57), .inr (5, [.ref (a 58), .int (nI (k.2.1))])), ((a 58), .inl (cI, (8, .inl (k.2.2.2.2))))] : va_W)) := hD
  refine lv_pop hx hb dX0_tellColour_8 rfl ?_
  refine lv_aload_n hx hb dX0_tellColour_9 rfl (lv_at hl 0 rfl) ?_
  refine va_get (D := D) (ci := 0) (v := .ref (a 57)) (C := RX0) (T := TX0) (N := 4) hx hb hts hin0 hown hK.1 hP 0 rfl rfl 3 (by decide) (hts _ fl_X0_30) (fun _ h9 => h9) rfl dX0_tellColour_10 ?_
  refine lv_iload_n hx hb dX0_tellColour_13 rfl (lv_at hl 3 rfl) ?_
  refine mi_V2 (As := [.int z]) (rest := []) ⟨hx, hb, hml, hown, hts⟩ (c_X5_push l D cI cZ (a 57) (a 58) 8 (k.2.1) (k.2.2.2.2) hk8 (by decide) z) (cw_X0_45 hts rfl rfl ⟨Nat.le_of_ble_eq_true rfl, Nat.le_of_ble_eq_true rfl⟩) hK hP hD hS 9 rfl [7, 8] [0, 1, 2, 3, 4, 5, 6] (fun (_ : Unit) => ([((a 50), .inr (0, [.ref (a 51), .ref (a 53), .ref (a 55), .ref (a 57)])), ((a 51), .inr (5, [.ref (a 52), .int (nI 4)])), ((a 52), .inl (cI, (4, .inl (k.1)))), ((a 53), .inr (5, [.ref (a 54), .int (nI (k.2.1))])), ((a 54), .inl (cI, (8, .inl (k.2.2.1)))), ((a 55), .inr (5, [.ref (a 56), .int (nI ((k.2.1) + 1))])), ((a 56), .inl (cI, (8, .inl (upd (k.2.2.2.1) (k.2.1) y)))), ((a 57), .inr (5, [.ref (a 58), .int (nI ((k.2.1) + 1))])), ((a 58), .inl (cI, (8, .inl (upd (k.2.2.2.2) (k.2.1) z))))] : va_W)) rfl (by decide) (fun u => rfl) [(a 57), (a 58)] rfl (fun u => rfl) ([((a 50), .inr (0, [.ref (a 51), .ref (a 53), .ref (a 55), .ref (a 57)])), ((a 51), .inr (5, [.ref (a 52), .int (nI 4)])), ((a 52), .inl (cI, (4, .inl (k.1)))), ((a 53), .inr (5, [.ref (a 54), .int (nI (k.2.1))])), ((a 54), .inl (cI, (8, .inl (k.2.2.1)))), ((a 55), .inr (5, [.ref (a 56), .int (nI ((k.2.1) + 1))])), ((a 56), .inl (cI, (8, .inl (upd (k.2.2.2.1) (k.2.1) y))))] : va_W) rfl (fun u => rfl) [(a 50), (a 51), (a 52), (a 53), (a 54), (a 55), (a 56), (a 57), (a 58)] rfl (fun u => rfl) (by decide) (by decide) (by decide) (ci := 5) rfl rfl rfl hl.1 rfl (Nat.le_of_ble_eq_true rfl) dX0_tellColour_14 ⟨Nat.zero_le _, Nat.zero_le _⟩ (fun r u H locs hp hP hD hS => ?_)
  have hp : r = nI ((k.2.1) + 1) := hp
  subst hp
  have hP : va_P D vwCl (([((a 50), .inr (0, [.ref (a 51), .ref (a 53), .ref (a 55), .ref (a 57)])), ((a 51), .inr (5, [.ref (a 52), .int (nI 4)])), ((a 52), .inl (cI, (4, .inl (k.1)))), ((a 53), .inr (5, [.ref (a 54), .int (nI (k.2.1))])), ((a 54), .inl (cI, (8, .inl (k.2.2.1)))), ((a 55), .inr (5, [.ref (a 56), .int (nI ((k.2.1) + 1))])), ((a 56), .inl (cI, (8, .inl (upd (k.2.2.2.1) (k.2.1) y)))), ((a 57), .inr (5, [.ref (a 58), .int (nI ((k.2.1) + 1))])), ((a 58), .inl (cI, (8, .inl (upd (k.2.2.2.2) (k.2.1) z))))] : va_W)) H := hP
  have hD : va_D _ (([((a 50), .inr (0, [.ref (a 51), .ref (a 53), .ref (a 55), .ref (a 57)])), ((a 51), .inr (5, [.ref (a 52), .int (nI 4)])), ((a 52), .inl (cI, (4, .inl (k.1)))), ((a 53), .inr (5, [.ref (a 54), .int (nI (k.2.1))])), ((a 54), .inl (cI, (8, .inl (k.2.2.1)))), ((a 55), .inr (5, [.ref (a 56), .int (nI ((k.2.1) + 1))])), ((a 56), .inl (cI, (8, .inl (upd (k.2.2.2.1) (k.2.1) y)))), ((a 57), .inr (5, [.ref (a 58), .int (nI ((k.2.1) + 1))])), ((a 58), .inl (cI, (8, .inl (upd (k.2.2.2.2) (k.2.1) z))))] : va_W)) := hD
  refine lv_pop hx hb dX0_tellColour_17 rfl ?_
  refine lv_aload_n hx hb dX0_tellColour_18 rfl (lv_at hl 0 rfl) ?_
  refine va_get (D := D) (ci := 0) (v := .ref (a 53)) (C := RX0) (T := TX0) (N := 4) hx hb hts hin0 hown hK.1 hP 0 rfl rfl 1 (by decide) (hts _ fl_X0_24) (fun _ h9 => h9) rfl dX0_tellColour_19 ?_
  refine lv_iload_n hx hb dX0_tellColour_22 rfl (lv_at hl 1 rfl) ?_
  refine mi_V2 (As := [.int x]) (rest := []) ⟨hx, hb, hml, hown, hts⟩ (c_X5_push l D cI cZ (a 53) (a 54) 8 (k.2.1) (k.2.2.1) hk8 (by decide) x) (cw_X0_45 hts rfl rfl ⟨Nat.le_of_ble_eq_true rfl, Nat.le_of_ble_eq_true rfl⟩) hK hP hD hS 9 rfl [3, 4] [0, 1, 2, 5, 6, 7, 8] (fun (_ : Unit) => ([((a 50), .inr (0, [.ref (a 51), .ref (a 53), .ref (a 55), .ref (a 57)])), ((a 51), .inr (5, [.ref (a 52), .int (nI 4)])), ((a 52), .inl (cI, (4, .inl (k.1)))), ((a 53), .inr (5, [.ref (a 54), .int (nI ((k.2.1) + 1))])), ((a 54), .inl (cI, (8, .inl (upd (k.2.2.1) (k.2.1) x)))), ((a 55), .inr (5, [.ref (a 56), .int (nI ((k.2.1) + 1))])), ((a 56), .inl (cI, (8, .inl (upd (k.2.2.2.1) (k.2.1) y)))), ((a 57), .inr (5, [.ref (a 58), .int (nI ((k.2.1) + 1))])), ((a 58), .inl (cI, (8, .inl (upd (k.2.2.2.2) (k.2.1) z))))] : va_W)) rfl (by decide) (fun u => rfl) [(a 53), (a 54)] rfl (fun u => rfl) ([((a 50), .inr (0, [.ref (a 51), .ref (a 53), .ref (a 55), .ref (a 57)])), ((a 51), .inr (5, [.ref (a 52), .int (nI 4)])), ((a 52), .inl (cI, (4, .inl (k.1)))), ((a 55), .inr (5, [.ref (a 56), .int (nI ((k.2.1) + 1))])), ((a 56), .inl (cI, (8, .inl (upd (k.2.2.2.1) (k.2.1) y)))), ((a 57), .inr (5, [.ref (a 58), .int (nI ((k.2.1) + 1))])), ((a 58), .inl (cI, (8, .inl (upd (k.2.2.2.2) (k.2.1) z))))] : va_W) rfl (fun u => rfl) [(a 50), (a 51), (a 52), (a 53), (a 54), (a 55), (a 56), (a 57), (a 58)] rfl (fun u => rfl) (by decide) (by decide) (by decide) (ci := 5) rfl rfl rfl hl.1 rfl (Nat.le_of_ble_eq_true rfl) dX0_tellColour_23 ⟨Nat.zero_le _, Nat.zero_le _⟩ (fun r u H locs hp hP hD hS => ?_)
  have hp : r = nI ((k.2.1) + 1) := hp
  subst hp
  have hP : va_P D vwCl (([((a 50), .inr (0, [.ref (a 51), .ref (a 53), .ref (a 55), .ref (a 57)])), ((a 51), .inr (5, [.ref (a 52), .int (nI 4)])), ((a 52), .inl (cI, (4, .inl (k.1)))), ((a 53), .inr (5, [.ref (a 54), .int (nI ((k.2.1) + 1))])), ((a 54), .inl (cI, (8, .inl (upd (k.2.2.1) (k.2.1) x)))), ((a 55), .inr (5, [.ref (a 56), .int (nI ((k.2.1) + 1))])), ((a 56), .inl (cI, (8, .inl (upd (k.2.2.2.1) (k.2.1) y)))), ((a 57), .inr (5, [.ref (a 58), .int (nI ((k.2.1) + 1))])), ((a 58), .inl (cI, (8, .inl (upd (k.2.2.2.2) (k.2.1) z))))] : va_W)) H := hP
  have hD : va_D _ (([((a 50), .inr (0, [.ref (a 51), .ref (a 53), .ref (a 55), .ref (a 57)])), ((a 51), .inr (5, [.ref (a 52), .int (nI 4)])), ((a 52), .inl (cI, (4, .inl (k.1)))), ((a 53), .inr (5, [.ref (a 54), .int (nI ((k.2.1) + 1))])), ((a 54), .inl (cI, (8, .inl (upd (k.2.2.1) (k.2.1) x)))), ((a 55), .inr (5, [.ref (a 56), .int (nI ((k.2.1) + 1))])), ((a 56), .inl (cI, (8, .inl (upd (k.2.2.2.1) (k.2.1) y)))), ((a 57), .inr (5, [.ref (a 58), .int (nI ((k.2.1) + 1))])), ((a 58), .inl (cI, (8, .inl (upd (k.2.2.2.2) (k.2.1) z))))] : va_W)) := hD
  exact mu_iret (v := (nI ((k.2.1) + 1))) hx hb hr hlocks (()) (rfl) (hP) hS dX0_tellColour_26

set_option maxHeartbeats 4000000 in
set_option maxRecDepth 100000 in
theorem c_X0_lastHue (l : Launch) (D : va_G) (cI cZ : ClassId) (a : Nat → Nat) (k : TC) (hk8 : k.2.1 ≤ 8) (x y : Int32) : RO l D cI cZ yX0_lastHue wyX0_lastHue ({ frames := 2, cells := 0, slots := 0, locals := 40 } : Room) [.ref (a 50), .int x, .int y] (wCl a cI k) ((jHu k x y k.2.1).1) := by
  refine Met.ofW (cc := cX0_lastHue) (maxL := 7) (ret := (some .int)) (by decide) rfl ?_
  intro p e s m args below meth c s₁ B hml hv
  obtain ⟨rfl, hK, hP⟩ := hv
  have hx := B.exec
  have hb := B.bytes
  have hr := B.returns
  have hts0 := atoms_spec (ws := wyX0_lastHue) B.pre
  have hts : ∀ w ∈ big, w.before _ s = true := fun w h => hts0 w (List.mem_cons_of_mem _ h)
  have hown : s.vm.findClass RX0 = some m.cls := findClass_of_methodNamed B.named
  have hlocks := B.notSynchronized
  have hl := lv_entry ([.ref (a 50), .int x, .int y]) (n := 7) (Nat.le_of_ble_eq_true rfl)
  rw [lg_entry_eq]
  generalize (lg_sl ([.ref (a 50), .int x, .int y]) ++ List.replicate (7 - (lg_sl ([.ref (a 50), .int x, .int y])).length) Slot.unset).toArray = ls at hl ⊢
  have hl : lv_has ls 7 [(0, .ref (a 50)), (1, .int x), (2, .int y)] := hl
  refine lv_iconst (v := (-1)) hx hb dX0_lastHue_0 (by decide) ?_
  refine lv_istore_n (lv' := [(3, .int (-1)), (0, .ref (a 50)), (1, .int x), (2, .int y)]) hx hb dX0_lastHue_1 rfl hl (by decide) rfl (fun ls hl => ?_)
  refine lv_iconst (v := 0) hx hb dX0_lastHue_2 (by decide) ?_
  refine lv_istore (lv' := [(4, .int 0), (3, .int (-1)), (0, .ref (a 50)), (1, .int x), (2, .int y)]) hx hb dX0_lastHue_3 hl (by decide) rfl (fun ls hl => ?_)
  refine lv_iconst (v := 0) hx hb dX0_lastHue_5 (by decide) ?_
  refine lv_istore (lv' := [(5, .int 0), (4, .int 0), (3, .int (-1)), (0, .ref (a 50)), (1, .int x), (2, .int y)]) hx hb dX0_lastHue_6 hl (by decide) rfl (fun ls hl => ?_)
  refine w_loop (α := Nat) (fun a9 => a9 ≤ k.2.1) (fun a9 => k.2.1 - a9) (fun a9 => [(0, .ref (a 50)), (1, .int x), (2, .int y), (3, .int ((jHu k x y a9).1)), (4, .int ((jHu k x y a9).2)), (5, .int (nI a9))]) 8 7 ?_ 0 (Nat.zero_le _) (show lv_has ls 7 [(0, .ref (a 50)), (1, .int x), (2, .int y), (3, .int ((jHu k x y 0).1)), (4, .int ((jHu k x y 0).2)), (5, .int (nI 0))] from lv_sub hl [3, 4, 5, 2, 1, 0] rfl)
  intro a9 ls hI hl ih_8
  obtain ⟨i, rfl⟩ : ∃ z, z = a9 := ⟨a9, rfl⟩
  have hI : i ≤ k.2.1 := hI
  have hl : lv_has ls 7 [(0, .ref (a 50)), (1, .int x), (2, .int y), (3, .int ((jHu k x y i).1)), (4, .int ((jHu k x y i).2)), (5, .int (nI i))] := hl
  refine lv_iload hx hb dX0_lastHue_8 (lv_at hl 5 rfl) ?_
  refine lv_aload_n hx hb dX0_lastHue_10 rfl (lv_at hl 0 rfl) ?_
  refine ro_V (As := []) (rest := [.int (nI i)]) ⟨hx, hb, hml, hown, hts⟩ (c_X0_toldColours l D cI cZ a k hk8) (cw_X0_59 hts rfl rfl ⟨Nat.le_of_ble_eq_true rfl, Nat.le_of_ble_eq_true rfl⟩) hK hP (ci := 0) rfl rfl rfl hl.1 rfl (Nat.le_of_ble_eq_true rfl) dX0_lastHue_11 ⟨Nat.zero_le _, Nat.zero_le _⟩ ?_
  refine lv_icmp_ge (tgt := 74) hx hb dX0_lastHue_14 (by decide) (fun c_1 => ?_) (fun c_1 => ?_)
  · skip
    have hge : k.2.1 ≤ i := zge (by have := hI; omega) (by omega) c_1
    refine lv_iload_n hx hb dX0_lastHue_74 rfl (lv_at hl 3 rfl) ?_
    exact ro_iret hx hb hr hlocks (by rw [show k.2.1 = i by omega]) dX0_lastHue_75
  · skip
    have hlt : i < k.2.1 := zlt (by have := hI; omega) (by omega) c_1
    refine lv_aload_n hx hb dX0_lastHue_17 rfl (lv_at hl 0 rfl) ?_
    refine va_get (D := D) (ci := 0) (v := .ref (a 57)) (C := RX0) (T := TX0) (N := 4) hx hb hts hin0 hown hK.1 hP 0 rfl rfl 3 (by decide) (hts _ fl_X0_30) (fun _ h9 => h9) rfl dX0_lastHue_18 ?_
    refine lv_iload hx hb dX0_lastHue_21 (lv_at hl 5 rfl) ?_
    refine ro_V (As := [.int (nI i)]) (rest := []) ⟨hx, hb, hml, hown, hts⟩ (c_X5_get l D cI cZ (a 57) (a 58) 8 (k.2.1) (k.2.2.2.2) hk8 (by decide) (nI i)) (cw_X0_33 hts rfl rfl ⟨Nat.le_of_ble_eq_true rfl, Nat.le_of_ble_eq_true rfl⟩) hK (hP.sub [7, 8] rfl) (ci := 5) rfl rfl rfl hl.1 rfl (Nat.le_of_ble_eq_true rfl) dX0_lastHue_23 ⟨Nat.zero_le _, Nat.zero_le _⟩ ?_
    rw [rg_in hlt (show (k.2.1) < 2 ^ 31 by have := hk8; omega)]
    refine lv_istore (lv' := [(6, .int ((k.2.2.2.2) i)), (0, .ref (a 50)), (1, .int x), (2, .int y), (3, .int ((jHu k x y i).1)), (4, .int ((jHu k x y i).2)), (5, .int (nI i))]) hx hb dX0_lastHue_26 hl (by decide) rfl (fun ls hl => ?_)
    refine lv_aload_n hx hb dX0_lastHue_28 rfl (lv_at hl 1 rfl) ?_
    refine va_get (D := D) (ci := 0) (v := .ref (a 53)) (C := RX0) (T := TX0) (N := 4) hx hb hts hin0 hown hK.1 hP 0 rfl rfl 1 (by decide) (hts _ fl_X0_24) (fun _ h9 => h9) rfl dX0_lastHue_29 ?_
    refine lv_iload hx hb dX0_lastHue_32 (lv_at hl 6 rfl) ?_
    refine ro_V (As := [.int (nI i)]) (rest := []) ⟨hx, hb, hml, hown, hts⟩ (c_X5_get l D cI cZ (a 53) (a 54) 8 (k.2.1) (k.2.2.1) hk8 (by decide) (nI i)) (cw_X0_33 hts rfl rfl ⟨Nat.le_of_ble_eq_true rfl, Nat.le_of_ble_eq_true rfl⟩) hK (hP.sub [3, 4] rfl) (ci := 5) rfl rfl rfl hl.1 rfl (Nat.le_of_ble_eq_true rfl) dX0_lastHue_34 ⟨Nat.zero_le _, Nat.zero_le _⟩ ?_
    rw [rg_in hlt (show (k.2.1) < 2 ^ 31 by have := hk8; omega)]
    refine lv_iload_n hx hb dX0_lastHue_37 rfl (lv_at hl 2 rfl) ?_
    refine lv_icmp_ne (tgt := 68) hx hb dX0_lastHue_38 (by decide) (fun c_2 => ?_) (fun c_2 => ?_)
    · skip
      have h9 : jHu k x y (i + 1) = jHu k x y i := by rw [jHu, if_neg (fun z9 => c_2 z9.1)]
      have hl : lv_has ls 7 [(6, .int ((k.2.2.2.2) i)), (0, .ref (a 50)), (1, .int x), (2, .int y), (3, .int ((jHu k x y (i + 1)).1)), (4, .int ((jHu k x y (i + 1)).2)), (5, .int (nI i))] := by rw [h9]; exact hl
      refine lv_iinc (v := (nI (i + 1))) (lv' := [(5, .int (nI (i + 1))), (6, .int ((k.2.2.2.2) i)), (0, .ref (a 50)), (1, .int x), (2, .int y), (3, .int ((jHu k x y (i + 1)).1)), (4, .int ((jHu k x y (i + 1)).2))]) hx hb dX0_lastHue_68 hl (k := 6) rfl (nI_add i 1) (by decide) rfl (fun ls hl => ?_)
      refine lv_goto (tgt := 8) hx hb dX0_lastHue_71 (by decide) ?_
      exact ih_8 (i + 1) ls (show (i + 1) ≤ k.2.1 from hlt) (show k.2.1 - (i + 1) < k.2.1 - i from by omega) (show lv_has ls 7 [(0, .ref (a 50)), (1, .int x), (2, .int y), (3, .int ((jHu k x y (i + 1)).1)), (4, .int ((jHu k x y (i + 1)).2)), (5, .int (nI (i + 1)))] from lv_sub hl [2, 3, 4, 5, 6, 0] rfl)
    · skip
      refine lv_iload hx hb dX0_lastHue_41 (lv_at hl 0 rfl) ?_
      refine lv_iload_n hx hb dX0_lastHue_43 rfl (lv_at hl 3 rfl) ?_
      refine lv_icmp_gt (tgt := 68) hx hb dX0_lastHue_44 (by decide) (fun c_3 => ?_) (fun c_3 => ?_)
      · skip
        have h9 : jHu k x y (i + 1) = jHu k x y i := by rw [jHu, if_neg (fun z9 => absurd z9.2.1 (Int32.not_le.mpr c_3))]
        have hl : lv_has ls 7 [(6, .int ((k.2.2.2.2) i)), (0, .ref (a 50)), (1, .int x), (2, .int y), (3, .int ((jHu k x y (i + 1)).1)), (4, .int ((jHu k x y (i + 1)).2)), (5, .int (nI i))] := by rw [h9]; exact hl
        refine lv_iinc (v := (nI (i + 1))) (lv' := [(5, .int (nI (i + 1))), (6, .int ((k.2.2.2.2) i)), (0, .ref (a 50)), (1, .int x), (2, .int y), (3, .int ((jHu k x y (i + 1)).1)), (4, .int ((jHu k x y (i + 1)).2))]) hx hb dX0_lastHue_68 hl (k := 6) rfl (nI_add i 1) (by decide) rfl (fun ls hl => ?_)
        refine lv_goto (tgt := 8) hx hb dX0_lastHue_71 (by decide) ?_
        exact ih_8 (i + 1) ls (show (i + 1) ≤ k.2.1 from hlt) (show k.2.1 - (i + 1) < k.2.1 - i from by omega) (show lv_has ls 7 [(0, .ref (a 50)), (1, .int x), (2, .int y), (3, .int ((jHu k x y (i + 1)).1)), (4, .int ((jHu k x y (i + 1)).2)), (5, .int (nI (i + 1)))] from lv_sub hl [2, 3, 4, 5, 6, 0] rfl)
      · skip
        refine lv_iload hx hb dX0_lastHue_47 (lv_at hl 0 rfl) ?_
        refine lv_iload hx hb dX0_lastHue_49 (lv_at hl 5 rfl) ?_
        refine lv_icmp_lt (tgt := 68) hx hb dX0_lastHue_51 (by decide) (fun c_4 => ?_) (fun c_4 => ?_)
        · skip
          have h9 : jHu k x y (i + 1) = jHu k x y i := by rw [jHu, if_neg (fun z9 => absurd z9.2.2 (Int32.not_le.mpr c_4))]
          have hl : lv_has ls 7 [(6, .int ((k.2.2.2.2) i)), (0, .ref (a 50)), (1, .int x), (2, .int y), (3, .int ((jHu k x y (i + 1)).1)), (4, .int ((jHu k x y (i + 1)).2)), (5, .int (nI i))] := by rw [h9]; exact hl
          refine lv_iinc (v := (nI (i + 1))) (lv' := [(5, .int (nI (i + 1))), (6, .int ((k.2.2.2.2) i)), (0, .ref (a 50)), (1, .int x), (2, .int y), (3, .int ((jHu k x y (i + 1)).1)), (4, .int ((jHu k x y (i + 1)).2))]) hx hb dX0_lastHue_68 hl (k := 6) rfl (nI_add i 1) (by decide) rfl (fun ls hl => ?_)
          refine lv_goto (tgt := 8) hx hb dX0_lastHue_71 (by decide) ?_
          exact ih_8 (i + 1) ls (show (i + 1) ≤ k.2.1 from hlt) (show k.2.1 - (i + 1) < k.2.1 - i from by omega) (show lv_has ls 7 [(0, .ref (a 50)), (1, .int x), (2, .int y), (3, .int ((jHu k x y (i + 1)).1)), (4, .int ((jHu k x y (i + 1)).2)), (5, .int (nI (i + 1)))] from lv_sub hl [2, 3, 4, 5, 6, 0] rfl)
        · skip
          refine lv_aload_n hx hb dX0_lastHue_54 rfl (lv_at hl 1 rfl) ?_
          refine va_get (D := D) (ci := 0) (v := .ref (a 55)) (C := RX0) (T := TX0) (N := 4) hx hb hts hin0 hown hK.1 hP 0 rfl rfl 2 (by decide) (hts _ fl_X0_27) (fun _ h9 => h9) rfl dX0_lastHue_55 ?_
          refine lv_iload hx hb dX0_lastHue_58 (lv_at hl 6 rfl) ?_
          refine ro_V (As := [.int (nI i)]) (rest := []) ⟨hx, hb, hml, hown, hts⟩ (c_X5_get l D cI cZ (a 55) (a 56) 8 (k.2.1) (k.2.2.2.1) hk8 (by decide) (nI i)) (cw_X0_33 hts rfl rfl ⟨Nat.le_of_ble_eq_true rfl, Nat.le_of_ble_eq_true rfl⟩) hK (hP.sub [5, 6] rfl) (ci := 5) rfl rfl rfl hl.1 rfl (Nat.le_of_ble_eq_true rfl) dX0_lastHue_60 ⟨Nat.zero_le _, Nat.zero_le _⟩ ?_
          rw [rg_in hlt (show (k.2.1) < 2 ^ 31 by have := hk8; omega)]
          refine lv_istore_n (lv' := [(3, .int ((k.2.2.2.1) i)), (6, .int ((k.2.2.2.2) i)), (0, .ref (a 50)), (1, .int x), (2, .int y), (4, .int ((jHu k x y i).2)), (5, .int (nI i))]) hx hb dX0_lastHue_63 rfl hl (by decide) rfl (fun ls hl => ?_)
          refine lv_iload hx hb dX0_lastHue_64 (lv_at hl 1 rfl) ?_
          refine lv_istore (lv' := [(4, .int ((k.2.2.2.2) i)), (3, .int ((k.2.2.2.1) i)), (6, .int ((k.2.2.2.2) i)), (0, .ref (a 50)), (1, .int x), (2, .int y), (5, .int (nI i))]) hx hb dX0_lastHue_66 hl (by decide) rfl (fun ls hl => ?_)
          have h9 : jHu k x y (i + 1) = ((k.2.2.2.1 i), (k.2.2.2.2 i)) := by rw [jHu, if_pos ⟨c_2, Int32.not_lt.mp c_3, Int32.not_lt.mp c_4⟩]
          have hl : lv_has ls 7 [(4, .int ((jHu k x y (i + 1)).2)), (3, .int ((jHu k x y (i + 1)).1)), (6, .int ((k.2.2.2.2) i)), (0, .ref (a 50)), (1, .int x), (2, .int y), (5, .int (nI i))] := by rw [h9]; exact hl
          refine lv_iinc (v := (nI (i + 1))) (lv' := [(5, .int (nI (i + 1))), (4, .int ((jHu k x y (i + 1)).2)), (3, .int ((jHu k x y (i + 1)).1)), (6, .int ((k.2.2.2.2) i)), (0, .ref (a 50)), (1, .int x), (2, .int y)]) hx hb dX0_lastHue_68 hl (k := 6) rfl (nI_add i 1) (by decide) rfl (fun ls hl => ?_)
          refine lv_goto (tgt := 8) hx hb dX0_lastHue_71 (by decide) ?_
          exact ih_8 (i + 1) ls (show (i + 1) ≤ k.2.1 from hlt) (show k.2.1 - (i + 1) < k.2.1 - i from by omega) (show lv_has ls 7 [(0, .ref (a 50)), (1, .int x), (2, .int y), (3, .int ((jHu k x y (i + 1)).1)), (4, .int ((jHu k x y (i + 1)).2)), (5, .int (nI (i + 1)))] from lv_sub hl [4, 5, 6, 2, 1, 0] rfl)

set_option maxHeartbeats 4000000 in
set_option maxRecDepth 100000 in
theorem c_X0_everHad (l : Launch) (D : va_G) (cI cZ : ClassId) (a : Nat → Nat) (k : TC) (hk8 : k.2.1 ≤ 8) (x y z : Int32) : RO l D cI cZ yX0_everHad wyX0_everHad ({ frames := 2, cells := 0, slots := 0, locals := 40 } : Room) [.ref (a 50), .int x, .int y, .int z] (wCl a cI k) (zb (jHd k x y z = true)) := by
  refine Met.ofW (cc := cX0_everHad) (maxL := 5) (ret := (some .boolean)) (by decide) rfl ?_
  intro p e s m args below meth c s₁ B hml hv
  obtain ⟨rfl, hK, hP⟩ := hv
  have hx := B.exec
  have hb := B.bytes
  have hr := B.returns
  have hts0 := atoms_spec (ws := wyX0_everHad) B.pre
  have hts : ∀ w ∈ big, w.before _ s = true := fun w h => hts0 w (List.mem_cons_of_mem _ h)
  have hown : s.vm.findClass RX0 = some m.cls := findClass_of_methodNamed B.named
  have hlocks := B.notSynchronized
  have hl := lv_entry ([.ref (a 50), .int x, .int y, .int z]) (n := 5) (Nat.le_of_ble_eq_true rfl)
  rw [lg_entry_eq]
  generalize (lg_sl ([.ref (a 50), .int x, .int y, .int z]) ++ List.replicate (5 - (lg_sl ([.ref (a 50), .int x, .int y, .int z])).length) Slot.unset).toArray = ls at hl ⊢
  have hl : lv_has ls 5 [(0, .ref (a 50)), (1, .int x), (2, .int y), (3, .int z)] := hl
  refine lv_iconst (v := 0) hx hb dX0_everHad_0 (by decide) ?_
  refine lv_istore (lv' := [(4, .int 0), (0, .ref (a 50)), (1, .int x), (2, .int y), (3, .int z)]) hx hb dX0_everHad_1 hl (by decide) rfl (fun ls hl => ?_)
  refine w_loop (α := Nat) (fun a9 => a9 ≤ k.2.1 ∧ anyB (fun i => decide (k.2.2.1 i = x ∧ k.2.2.2.1 i = y ∧ k.2.2.2.2 i ≤ z)) a9 = false) (fun a9 => k.2.1 - a9) (fun a9 => [(0, .ref (a 50)), (1, .int x), (2, .int y), (3, .int z), (4, .int (nI a9))]) 3 5 ?_ 0 (⟨Nat.zero_le _, rfl⟩) (show lv_has ls 5 [(0, .ref (a 50)), (1, .int x), (2, .int y), (3, .int z), (4, .int (nI 0))] from lv_sub hl [1, 2, 3, 4, 0] rfl)
  intro a9 ls hI hl ih_3
  obtain ⟨i, rfl⟩ : ∃ z, z = a9 := ⟨a9, rfl⟩
  have hI : i ≤ k.2.1 ∧ anyB (fun i => decide (k.2.2.1 i = x ∧ k.2.2.2.1 i = y ∧ k.2.2.2.2 i ≤ z)) i = false := hI
  have hl : lv_has ls 5 [(0, .ref (a 50)), (1, .int x), (2, .int y), (3, .int z), (4, .int (nI i))] := hl
  refine lv_iload hx hb dX0_everHad_3 (lv_at hl 4 rfl) ?_
  refine lv_aload_n hx hb dX0_everHad_5 rfl (lv_at hl 0 rfl) ?_
  refine ro_V (As := []) (rest := [.int (nI i)]) ⟨hx, hb, hml, hown, hts⟩ (c_X0_toldColours l D cI cZ a k hk8) (cw_X0_59 hts rfl rfl ⟨Nat.le_of_ble_eq_true rfl, Nat.le_of_ble_eq_true rfl⟩) hK hP (ci := 0) rfl rfl rfl hl.1 rfl (Nat.le_of_ble_eq_true rfl) dX0_everHad_6 ⟨Nat.zero_le _, Nat.zero_le _⟩ ?_
  refine lv_icmp_ge (tgt := 59) hx hb dX0_everHad_9 (by decide) (fun c_1 => ?_) (fun c_1 => ?_)
  · skip
    have hge : k.2.1 ≤ i := zge (by have := hI.1; omega) (by omega) c_1
    refine lv_iconst (v := 0) hx hb dX0_everHad_59 (by decide) ?_
    exact ro_zret hx hb hr hlocks (nar_zb _) ((zb_f (by unfold jHd; rw [show k.2.1 = i by have := hI.1; omega, hI.2]; decide)).symm) dX0_everHad_60
  · skip
    have hlt : i < k.2.1 := zlt (by have := hI.1; omega) (by omega) c_1
    refine lv_aload_n hx hb dX0_everHad_12 rfl (lv_at hl 0 rfl) ?_
    refine va_get (D := D) (ci := 0) (v := .ref (a 53)) (C := RX0) (T := TX0) (N := 4) hx hb hts hin0 hown hK.1 hP 0 rfl rfl 1 (by decide) (hts _ fl_X0_24) (fun _ h9 => h9) rfl dX0_everHad_13 ?_
    refine lv_iload hx hb dX0_everHad_16 (lv_at hl 4 rfl) ?_
    refine ro_V (As := [.int (nI i)]) (rest := []) ⟨hx, hb, hml, hown, hts⟩ (c_X5_get l D cI cZ (a 53) (a 54) 8 (k.2.1) (k.2.2.1) hk8 (by decide) (nI i)) (cw_X0_33 hts rfl rfl ⟨Nat.le_of_ble_eq_true rfl, Nat.le_of_ble_eq_true rfl⟩) hK (hP.sub [3, 4] rfl) (ci := 5) rfl rfl rfl hl.1 rfl (Nat.le_of_ble_eq_true rfl) dX0_everHad_18 ⟨Nat.zero_le _, Nat.zero_le _⟩ ?_
    rw [rg_in hlt (show (k.2.1) < 2 ^ 31 by have := hk8; omega)]
    refine lv_iload_n hx hb dX0_everHad_21 rfl (lv_at hl 1 rfl) ?_
    refine lv_icmp_ne (tgt := 53) hx hb dX0_everHad_22 (by decide) (fun c_2 => ?_) (fun c_2 => ?_)
    · skip
      refine lv_iinc (v := (nI (i + 1))) (lv' := [(4, .int (nI (i + 1))), (0, .ref (a 50)), (1, .int x), (2, .int y), (3, .int z)]) hx hb dX0_everHad_53 hl (k := 4) rfl (nI_add i 1) (by decide) rfl (fun ls hl => ?_)
      refine lv_goto (tgt := 3) hx hb dX0_everHad_56 (by decide) ?_
      exact ih_3 (i + 1) ls (show (i + 1) ≤ k.2.1 ∧ anyB (fun i => decide (k.2.2.1 i = x ∧ k.2.2.2.1 i = y ∧ k.2.2.2.2 i ≤ z)) (i + 1) = false from ⟨hlt, by rw [anyB, hI.2, Bool.false_or, decide_eq_false_iff_not]; exact fun z9 => c_2 z9.1⟩) (show k.2.1 - (i + 1) < k.2.1 - i from by omega) (show lv_has ls 5 [(0, .ref (a 50)), (1, .int x), (2, .int y), (3, .int z), (4, .int (nI (i + 1)))] from lv_sub hl [1, 2, 3, 4, 0] rfl)
    · skip
      refine lv_aload_n hx hb dX0_everHad_25 rfl (lv_at hl 0 rfl) ?_
      refine va_get (D := D) (ci := 0) (v := .ref (a 55)) (C := RX0) (T := TX0) (N := 4) hx hb hts hin0 hown hK.1 hP 0 rfl rfl 2 (by decide) (hts _ fl_X0_27) (fun _ h9 => h9) rfl dX0_everHad_26 ?_
      refine lv_iload hx hb dX0_everHad_29 (lv_at hl 4 rfl) ?_
      refine ro_V (As := [.int (nI i)]) (rest := []) ⟨hx, hb, hml, hown, hts⟩ (c_X5_get l D cI cZ (a 55) (a 56) 8 (k.2.1) (k.2.2.2.1) hk8 (by decide) (nI i)) (cw_X0_33 hts rfl rfl ⟨Nat.le_of_ble_eq_true rfl, Nat.le_of_ble_eq_true rfl⟩) hK (hP.sub [5, 6] rfl) (ci := 5) rfl rfl rfl hl.1 rfl (Nat.le_of_ble_eq_true rfl) dX0_everHad_31 ⟨Nat.zero_le _, Nat.zero_le _⟩ ?_
      rw [rg_in hlt (show (k.2.1) < 2 ^ 31 by have := hk8; omega)]
      refine lv_iload_n hx hb dX0_everHad_34 rfl (lv_at hl 2 rfl) ?_
      refine lv_icmp_ne (tgt := 53) hx hb dX0_everHad_35 (by decide) (fun c_3 => ?_) (fun c_3 => ?_)
      · skip
        refine lv_iinc (v := (nI (i + 1))) (lv' := [(4, .int (nI (i + 1))), (0, .ref (a 50)), (1, .int x), (2, .int y), (3, .int z)]) hx hb dX0_everHad_53 hl (k := 4) rfl (nI_add i 1) (by decide) rfl (fun ls hl => ?_)
        refine lv_goto (tgt := 3) hx hb dX0_everHad_56 (by decide) ?_
        exact ih_3 (i + 1) ls (show (i + 1) ≤ k.2.1 ∧ anyB (fun i => decide (k.2.2.1 i = x ∧ k.2.2.2.1 i = y ∧ k.2.2.2.2 i ≤ z)) (i + 1) = false from ⟨hlt, by rw [anyB, hI.2, Bool.false_or, decide_eq_false_iff_not]; exact fun z9 => c_3 z9.2.1⟩) (show k.2.1 - (i + 1) < k.2.1 - i from by omega) (show lv_has ls 5 [(0, .ref (a 50)), (1, .int x), (2, .int y), (3, .int z), (4, .int (nI (i + 1)))] from lv_sub hl [1, 2, 3, 4, 0] rfl)
      · skip
        refine lv_aload_n hx hb dX0_everHad_38 rfl (lv_at hl 0 rfl) ?_
        refine va_get (D := D) (ci := 0) (v := .ref (a 57)) (C := RX0) (T := TX0) (N := 4) hx hb hts hin0 hown hK.1 hP 0 rfl rfl 3 (by decide) (hts _ fl_X0_30) (fun _ h9 => h9) rfl dX0_everHad_39 ?_
        refine lv_iload hx hb dX0_everHad_42 (lv_at hl 4 rfl) ?_
        refine ro_V (As := [.int (nI i)]) (rest := []) ⟨hx, hb, hml, hown, hts⟩ (c_X5_get l D cI cZ (a 57) (a 58) 8 (k.2.1) (k.2.2.2.2) hk8 (by decide) (nI i)) (cw_X0_33 hts rfl rfl ⟨Nat.le_of_ble_eq_true rfl, Nat.le_of_ble_eq_true rfl⟩) hK (hP.sub [7, 8] rfl) (ci := 5) rfl rfl rfl hl.1 rfl (Nat.le_of_ble_eq_true rfl) dX0_everHad_44 ⟨Nat.zero_le _, Nat.zero_le _⟩ ?_
        rw [rg_in hlt (show (k.2.1) < 2 ^ 31 by have := hk8; omega)]
        refine lv_iload_n hx hb dX0_everHad_47 rfl (lv_at hl 3 rfl) ?_
        refine lv_icmp_gt (tgt := 53) hx hb dX0_everHad_48 (by decide) (fun c_4 => ?_) (fun c_4 => ?_)
        · skip
          refine lv_iinc (v := (nI (i + 1))) (lv' := [(4, .int (nI (i + 1))), (0, .ref (a 50)), (1, .int x), (2, .int y), (3, .int z)]) hx hb dX0_everHad_53 hl (k := 4) rfl (nI_add i 1) (by decide) rfl (fun ls hl => ?_)
          refine lv_goto (tgt := 3) hx hb dX0_everHad_56 (by decide) ?_
          exact ih_3 (i + 1) ls (show (i + 1) ≤ k.2.1 ∧ anyB (fun i => decide (k.2.2.1 i = x ∧ k.2.2.2.1 i = y ∧ k.2.2.2.2 i ≤ z)) (i + 1) = false from ⟨hlt, by rw [anyB, hI.2, Bool.false_or, decide_eq_false_iff_not]; exact fun z9 => absurd z9.2.2 (Int32.not_le.mpr c_4)⟩) (show k.2.1 - (i + 1) < k.2.1 - i from by omega) (show lv_has ls 5 [(0, .ref (a 50)), (1, .int x), (2, .int y), (3, .int z), (4, .int (nI (i + 1)))] from lv_sub hl [1, 2, 3, 4, 0] rfl)
        · skip
          refine lv_iconst (v := 1) hx hb dX0_everHad_51 (by decide) ?_
          exact ro_zret hx hb hr hlocks (nar_zb _) ((zb_t ((anyB_iff _).mpr ⟨i, hlt, decide_eq_true ⟨c_2, c_3, Int32.not_lt.mp c_4⟩⟩)).symm) dX0_everHad_52

set_option maxHeartbeats 4000000 in
set_option maxRecDepth 100000 in
theorem c_X0_ownersOf (l : Launch) (D : va_G) (cI cZ : ClassId) (a : Nat → Nat) (k : TC) (hk8 : k.2.1 ≤ 8) (x y z w : Int32) : RO l D cI cZ yX0_ownersOf wyX0_ownersOf ({ frames := 3, cells := 0, slots := 0, locals := 66 } : Room) [.ref (a 50), .int x, .int y, .int z, .int w] (wCl a cI k) (jOw k x y z w 4) := by
  refine Met.ofW (cc := cX0_ownersOf) (maxL := 9) (ret := (some .int)) (by decide) rfl ?_
  intro p e s m args below meth c s₁ B hml hv
  obtain ⟨rfl, hK, hP⟩ := hv
  have hx := B.exec
  have hb := B.bytes
  have hr := B.returns
  have hts0 := atoms_spec (ws := wyX0_ownersOf) B.pre
  have hts : ∀ w ∈ big, w.before _ s = true := fun w h => hts0 w (List.mem_cons_of_mem _ h)
  have hown : s.vm.findClass RX0 = some m.cls := findClass_of_methodNamed B.named
  have hlocks := B.notSynchronized
  have hl := lv_entry ([.ref (a 50), .int x, .int y, .int z, .int w]) (n := 9) (Nat.le_of_ble_eq_true rfl)
  rw [lg_entry_eq]
  generalize (lg_sl ([.ref (a 50), .int x, .int y, .int z, .int w]) ++ List.replicate (9 - (lg_sl ([.ref (a 50), .int x, .int y, .int z, .int w])).length) Slot.unset).toArray = ls at hl ⊢
  have hl : lv_has ls 9 [(0, .ref (a 50)), (1, .int x), (2, .int y), (3, .int z), (4, .int w)] := hl
  refine lv_iconst (v := 0) hx hb dX0_ownersOf_0 (by decide) ?_
  refine lv_istore (lv' := [(5, .int 0), (0, .ref (a 50)), (1, .int x), (2, .int y), (3, .int z), (4, .int w)]) hx hb dX0_ownersOf_1 hl (by decide) rfl (fun ls hl => ?_)
  refine lv_iconst (v := 0) hx hb dX0_ownersOf_3 (by decide) ?_
  refine lv_istore (lv' := [(6, .int 0), (5, .int 0), (0, .ref (a 50)), (1, .int x), (2, .int y), (3, .int z), (4, .int w)]) hx hb dX0_ownersOf_4 hl (by decide) rfl (fun ls hl => ?_)
  refine w_loop (α := Nat) (fun a9 => a9 ≤ 4) (fun a9 => 4 - a9) (fun a9 => [(0, .ref (a 50)), (1, .int x), (2, .int y), (3, .int z), (4, .int w), (5, .int (jOw k x y z w a9)), (6, .int (nI a9))]) 6 9 ?_ 0 (Nat.zero_le _) (show lv_has ls 9 [(0, .ref (a 50)), (1, .int x), (2, .int y), (3, .int z), (4, .int w), (5, .int (jOw k x y z w 0)), (6, .int (nI 0))] from lv_sub hl [2, 3, 4, 5, 6, 1, 0] rfl)
  intro a9 ls hI hl ih_6
  obtain ⟨i, rfl⟩ : ∃ z, z = a9 := ⟨a9, rfl⟩
  have hI : i ≤ 4 := hI
  have hl : lv_has ls 9 [(0, .ref (a 50)), (1, .int x), (2, .int y), (3, .int z), (4, .int w), (5, .int (jOw k x y z w i)), (6, .int (nI i))] := hl
  refine lv_iload hx hb dX0_ownersOf_6 (lv_at hl 6 rfl) ?_
  refine lv_iconst (v := 4) hx hb dX0_ownersOf_8 (by decide) ?_
  refine lv_icmp_ge (tgt := 100) hx hb dX0_ownersOf_9 (by decide) (fun c_1 => ?_) (fun c_1 => ?_)
  · skip
    have hge : 4 ≤ i := zge (by have := hI; omega) (by omega) c_1
    refine lv_iload hx hb dX0_ownersOf_100 (lv_at hl 5 rfl) ?_
    exact ro_iret hx hb hr hlocks (by rw [show 4 = i by omega]) dX0_ownersOf_102
  · skip
    have hlt : i < 4 := zlt (by have := hI; omega) (by omega) c_1
    refine w_join (α := Int32) (fun a9 => a9 = (zb (jHas k y z i = true))) (fun a9 => [(0, .ref (a 50)), (1, .int x), (2, .int y), (3, .int z), (4, .int w), (5, .int (jOw k x y z w i)), (6, .int (nI i))]) (fun a9 => [.int a9]) 28 9 (fun hJ_28 => ?_) ?_
    · skip
      refine lv_aload_n hx hb dX0_ownersOf_12 rfl (lv_at hl 0 rfl) ?_
      refine lv_iload hx hb dX0_ownersOf_13 (lv_at hl 6 rfl) ?_
      refine lv_iload_n hx hb dX0_ownersOf_15 rfl (lv_at hl 3 rfl) ?_
      refine ro_V (As := [.int (nI i), .int z]) (rest := []) ⟨hx, hb, hml, hown, hts⟩ (c_X0_lastHue l D cI cZ a k hk8 (nI i) z) (cw_X0_48 hts rfl rfl ⟨Nat.le_of_ble_eq_true rfl, Nat.le_of_ble_eq_true rfl⟩) hK hP (ci := 0) rfl rfl rfl hl.1 rfl (Nat.le_of_ble_eq_true rfl) dX0_ownersOf_16 ⟨Nat.zero_le _, Nat.zero_le _⟩ ?_
      refine lv_iload_n hx hb dX0_ownersOf_19 rfl (lv_at hl 2 rfl) ?_
      refine lv_icmp_ne (tgt := 27) hx hb dX0_ownersOf_20 (by decide) (fun c_2 => ?_) (fun c_2 => ?_)
      · skip
        refine lv_iconst (v := 0) hx hb dX0_ownersOf_27 (by decide) ?_
        exact hJ_28 0 ls (show 0 = (zb (jHas k y z i = true)) from by first | exact (zb_t (decide_eq_true c_2)).symm | exact (zb_f (by unfold jHas; rw [decide_eq_true_eq]; exact c_2)).symm) (show lv_has ls 9 [(0, .ref (a 50)), (1, .int x), (2, .int y), (3, .int z), (4, .int w), (5, .int (jOw k x y z w i)), (6, .int (nI i))] from lv_sub hl [0, 1, 2, 3, 4, 5, 6] rfl)
      · skip
        refine lv_iconst (v := 1) hx hb dX0_ownersOf_23 (by decide) ?_
        refine lv_goto (tgt := 28) hx hb dX0_ownersOf_24 (by decide) ?_
        exact hJ_28 1 ls (show 1 = (zb (jHas k y z i = true)) from by first | exact (zb_t (decide_eq_true c_2)).symm | exact (zb_f (by unfold jHas; rw [decide_eq_true_eq]; exact c_2)).symm) (show lv_has ls 9 [(0, .ref (a 50)), (1, .int x), (2, .int y), (3, .int z), (4, .int w), (5, .int (jOw k x y z w i)), (6, .int (nI i))] from lv_sub hl [0, 1, 2, 3, 4, 5, 6] rfl)
    · skip
      intro a9 ls hI hl
      obtain ⟨u, rfl⟩ : ∃ z, z = a9 := ⟨a9, rfl⟩
      have hI : u = (zb (jHas k y z i = true)) := hI
      subst hI
      have hl : lv_has ls 9 [(0, .ref (a 50)), (1, .int x), (2, .int y), (3, .int z), (4, .int w), (5, .int (jOw k x y z w i)), (6, .int (nI i))] := hl
      refine lv_istore (lv' := [(7, .int (zb (jHas k y z i = true))), (0, .ref (a 50)), (1, .int x), (2, .int y), (3, .int z), (4, .int w), (5, .int (jOw k x y z w i)), (6, .int (nI i))]) hx hb dX0_ownersOf_28 hl (by decide) rfl (fun ls hl => ?_)
      refine w_join (α := Int32) (fun a9 => a9 = (zb (jMay k y z w i = true))) (fun a9 => [(0, .ref (a 50)), (1, .int x), (2, .int y), (3, .int z), (4, .int w), (5, .int (jOw k x y z w i)), (6, .int (nI i)), (7, .int (zb (jHas k y z i = true)))]) (fun a9 => [.int a9]) 61 9 (fun hJ_61 => ?_) ?_
      · skip
        refine lv_iload hx hb dX0_ownersOf_30 (lv_at hl 5 rfl) ?_
        refine lv_if_eq (tgt := 59) hx hb dX0_ownersOf_32 (by decide) (fun c_3 => ?_) (fun c_3 => ?_)
        · skip
          refine lv_iload hx hb dX0_ownersOf_59 (lv_at hl 0 rfl) ?_
          exact hJ_61 (zb (jHas k y z i = true)) ls (show (zb (jHas k y z i = true)) = (zb (jMay k y z w i = true)) from by unfold jMay; simp [zb, c_3]) (show lv_has ls 9 [(0, .ref (a 50)), (1, .int x), (2, .int y), (3, .int z), (4, .int w), (5, .int (jOw k x y z w i)), (6, .int (nI i)), (7, .int (zb (jHas k y z i = true)))] from lv_sub hl [1, 2, 3, 4, 5, 6, 7, 0] rfl)
        · skip
          refine lv_iload hx hb dX0_ownersOf_35 (lv_at hl 0 rfl) ?_
          refine lv_if_ne (tgt := 55) hx hb dX0_ownersOf_37 (by decide) (fun c_4 => ?_) (fun c_4 => ?_)
          · skip
            have c_4 := zb_ne0 c_4
            refine lv_iconst (v := 0) hx hb dX0_ownersOf_55 (by decide) ?_
            refine lv_goto (tgt := 61) hx hb dX0_ownersOf_56 (by decide) ?_
            exact hJ_61 0 ls (show 0 = (zb (jMay k y z w i = true)) from by unfold jMay; simp [zb, c_3, c_4]) (show lv_has ls 9 [(0, .ref (a 50)), (1, .int x), (2, .int y), (3, .int z), (4, .int w), (5, .int (jOw k x y z w i)), (6, .int (nI i)), (7, .int (zb (jHas k y z i = true)))] from lv_sub hl [1, 2, 3, 4, 5, 6, 7, 0] rfl)
          · skip
            have c_4 := zb_eq0 c_4
            refine lv_aload_n hx hb dX0_ownersOf_40 rfl (lv_at hl 1 rfl) ?_
            refine lv_iload hx hb dX0_ownersOf_41 (lv_at hl 7 rfl) ?_
            refine lv_iload_n hx hb dX0_ownersOf_43 rfl (lv_at hl 3 rfl) ?_
            refine lv_iload_n hx hb dX0_ownersOf_44 rfl (lv_at hl 4 rfl) ?_
            refine ro_V (As := [.int (nI i), .int y, .int z]) (rest := []) ⟨hx, hb, hml, hown, hts⟩ (c_X0_everHad l D cI cZ a k hk8 (nI i) y z) (cw_X0_52 hts rfl rfl ⟨Nat.le_of_ble_eq_true rfl, Nat.le_of_ble_eq_true rfl⟩) hK hP (ci := 0) rfl rfl rfl hl.1 rfl (Nat.le_of_ble_eq_true rfl) dX0_ownersOf_45 ⟨Nat.zero_le _, Nat.zero_le _⟩ ?_
            refine lv_if_eq (tgt := 55) hx hb dX0_ownersOf_48 (by decide) (fun c_5 => ?_) (fun c_5 => ?_)
            · skip
              have c_5 := zb_eq0 c_5
              refine lv_iconst (v := 0) hx hb dX0_ownersOf_55 (by decide) ?_
              refine lv_goto (tgt := 61) hx hb dX0_ownersOf_56 (by decide) ?_
              exact hJ_61 0 ls (show 0 = (zb (jMay k y z w i = true)) from by unfold jMay; simp [zb, c_3, c_4, c_5]) (show lv_has ls 9 [(0, .ref (a 50)), (1, .int x), (2, .int y), (3, .int z), (4, .int w), (5, .int (jOw k x y z w i)), (6, .int (nI i)), (7, .int (zb (jHas k y z i = true)))] from lv_sub hl [1, 2, 3, 4, 5, 6, 7, 0] rfl)
            · skip
              have c_5 := zb_ne0 c_5
              refine lv_iconst (v := 1) hx hb dX0_ownersOf_51 (by decide) ?_
              refine lv_goto (tgt := 61) hx hb dX0_ownersOf_52 (by decide) ?_
              exact hJ_61 1 ls (show 1 = (zb (jMay k y z w i = true)) from by unfold jMay; simp [zb, c_3, c_4, c_5]) (show lv_has ls 9 [(0, .ref (a 50)), (1, .int x), (2, .int y), (3, .int z), (4, .int w), (5, .int (jOw k x y z w i)), (6, .int (nI i)), (7, .int (zb (jHas k y z i = true)))] from lv_sub hl [1, 2, 3, 4, 5, 6, 7, 0] rfl)
      · skip
        intro a9 ls hI hl
        obtain ⟨u, rfl⟩ : ∃ z, z = a9 := ⟨a9, rfl⟩
        have hI : u = (zb (jMay k y z w i = true)) := hI
        subst hI
        have hl : lv_has ls 9 [(0, .ref (a 50)), (1, .int x), (2, .int y), (3, .int z), (4, .int w), (5, .int (jOw k x y z w i)), (6, .int (nI i)), (7, .int (zb (jHas k y z i = true)))] := hl
        refine lv_istore (lv' := [(8, .int (zb (jMay k y z w i = true))), (0, .ref (a 50)), (1, .int x), (2, .int y), (3, .int z), (4, .int w), (5, .int (jOw k x y z w i)), (6, .int (nI i)), (7, .int (zb (jHas k y z i = true)))]) hx hb dX0_ownersOf_61 hl (by decide) rfl (fun ls hl => ?_)
        refine lv_iload hx hb dX0_ownersOf_63 (lv_at hl 0 rfl) ?_
        refine lv_if_eq (tgt := 94) hx hb dX0_ownersOf_65 (by decide) (fun c_6 => ?_) (fun c_6 => ?_)
        · skip
          have c_6 := zb_eq0 c_6
          have hl : lv_has ls 9 [(8, .int (zb (jMay k y z w i = true))), (0, .ref (a 50)), (1, .int x), (2, .int y), (3, .int z), (4, .int w), (5, .int (jOw k x y z w (i + 1))), (6, .int (nI i)), (7, .int (zb (jHas k y z i = true)))] := by rw [show jOw k x y z w (i + 1) = (jOw k x y z w i) from by rw [jOw, if_neg (fun z9 => c_6 z9.1)]]; exact hl
          refine lv_iinc (v := (nI (i + 1))) (lv' := [(6, .int (nI (i + 1))), (8, .int (zb (jMay k y z w i = true))), (0, .ref (a 50)), (1, .int x), (2, .int y), (3, .int z), (4, .int w), (5, .int (jOw k x y z w (i + 1))), (7, .int (zb (jHas k y z i = true)))]) hx hb dX0_ownersOf_94 hl (k := 7) rfl (nI_add i 1) (by decide) rfl (fun ls hl => ?_)
          refine lv_goto (tgt := 6) hx hb dX0_ownersOf_97 (by decide) ?_
          exact ih_6 (i + 1) ls (show (i + 1) ≤ 4 from hlt) (show 4 - (i + 1) < 4 - i from by omega) (show lv_has ls 9 [(0, .ref (a 50)), (1, .int x), (2, .int y), (3, .int z), (4, .int w), (5, .int (jOw k x y z w (i + 1))), (6, .int (nI (i + 1)))] from lv_sub hl [2, 3, 4, 5, 6, 7, 0] rfl)
        · skip
          have c_6 := zb_ne0 c_6
          refine lv_aload_n hx hb dX0_ownersOf_68 rfl (lv_at hl 1 rfl) ?_
          refine va_get (D := D) (ci := 0) (v := .ref (a 51)) (C := RX0) (T := TX0) (N := 4) hx hb hts hin0 hown hK.1 hP 0 rfl rfl 0 (by decide) (hts _ fl_X0_20) (fun _ h9 => h9) rfl dX0_ownersOf_69 ?_
          refine lv_iload hx hb dX0_ownersOf_72 (lv_at hl 7 rfl) ?_
          refine ro_V (As := [.int (nI i)]) (rest := []) ⟨hx, hb, hml, hown, hts⟩ (c_X5_get l D cI cZ (a 51) (a 52) 4 4 (k.1) (by decide) (by decide) (nI i)) (cw_X0_33 hts rfl rfl ⟨Nat.le_of_ble_eq_true rfl, Nat.le_of_ble_eq_true rfl⟩) hK (hP.sub [1, 2] rfl) (ci := 5) rfl rfl rfl hl.1 rfl (Nat.le_of_ble_eq_true rfl) dX0_ownersOf_74 ⟨Nat.zero_le _, Nat.zero_le _⟩ ?_
          rw [rg_in hlt (show 4 < 2 ^ 31 by have := True.intro; omega)]
          refine lv_iload_n hx hb dX0_ownersOf_77 rfl (lv_at hl 2 rfl) ?_
          refine ro_SN (As := [.int x]) (rest := [.int ((k.1) i)]) ⟨hx, hb, hml, hown, hts⟩ (c_X9_bitOf l D cI cZ  x) (cw_X0_56 hts rfl rfl hK ⟨Nat.le_of_ble_eq_true rfl, Nat.le_of_ble_eq_true rfl⟩) hK P_nil rfl hl.1 rfl (Nat.le_of_ble_eq_true rfl) dX0_ownersOf_78 ⟨Nat.zero_le _, Nat.zero_le _⟩ ?_
          refine lv_iand hx hb dX0_ownersOf_81 ?_
          refine lv_if_eq (tgt := 94) hx hb dX0_ownersOf_82 (by decide) (fun c_7 => ?_) (fun c_7 => ?_)
          · skip
            have hl : lv_has ls 9 [(8, .int (zb (jMay k y z w i = true))), (0, .ref (a 50)), (1, .int x), (2, .int y), (3, .int z), (4, .int w), (5, .int (jOw k x y z w (i + 1))), (6, .int (nI i)), (7, .int (zb (jHas k y z i = true)))] := by rw [show jOw k x y z w (i + 1) = (jOw k x y z w i) from by rw [jOw, if_neg (fun z9 => z9.2 c_7)]]; exact hl
            refine lv_iinc (v := (nI (i + 1))) (lv' := [(6, .int (nI (i + 1))), (8, .int (zb (jMay k y z w i = true))), (0, .ref (a 50)), (1, .int x), (2, .int y), (3, .int z), (4, .int w), (5, .int (jOw k x y z w (i + 1))), (7, .int (zb (jHas k y z i = true)))]) hx hb dX0_ownersOf_94 hl (k := 7) rfl (nI_add i 1) (by decide) rfl (fun ls hl => ?_)
            refine lv_goto (tgt := 6) hx hb dX0_ownersOf_97 (by decide) ?_
            exact ih_6 (i + 1) ls (show (i + 1) ≤ 4 from hlt) (show 4 - (i + 1) < 4 - i from by omega) (show lv_has ls 9 [(0, .ref (a 50)), (1, .int x), (2, .int y), (3, .int z), (4, .int w), (5, .int (jOw k x y z w (i + 1))), (6, .int (nI (i + 1)))] from lv_sub hl [2, 3, 4, 5, 6, 7, 0] rfl)
          · skip
            refine lv_iload hx hb dX0_ownersOf_85 (lv_at hl 6 rfl) ?_
            refine lv_iconst (v := 1) hx hb dX0_ownersOf_87 (by decide) ?_
            refine lv_iload hx hb dX0_ownersOf_88 (lv_at hl 7 rfl) ?_
            refine lv_ishl hx hb dX0_ownersOf_90 ?_
            refine lv_ior hx hb dX0_ownersOf_91 ?_
            refine lv_istore (lv' := [(5, .int ((jOw k x y z w i) ||| (1 <<< ((nI i) &&& 31)))), (8, .int (zb (jMay k y z w i = true))), (0, .ref (a 50)), (1, .int x), (2, .int y), (3, .int z), (4, .int w), (6, .int (nI i)), (7, .int (zb (jHas k y z i = true)))]) hx hb dX0_ownersOf_92 hl (by decide) rfl (fun ls hl => ?_)
            have hl : lv_has ls 9 [(5, .int (jOw k x y z w (i + 1))), (8, .int (zb (jMay k y z w i = true))), (0, .ref (a 50)), (1, .int x), (2, .int y), (3, .int z), (4, .int w), (6, .int (nI i)), (7, .int (zb (jHas k y z i = true)))] := by rw [show jOw k x y z w (i + 1) = ((jOw k x y z w i) ||| (1 <<< ((nI i) &&& 31))) from by rw [jOw, if_pos ⟨c_6, c_7⟩]]; exact hl
            refine lv_iinc (v := (nI (i + 1))) (lv' := [(6, .int (nI (i + 1))), (5, .int (jOw k x y z w (i + 1))), (8, .int (zb (jMay k y z w i = true))), (0, .ref (a 50)), (1, .int x), (2, .int y), (3, .int z), (4, .int w), (7, .int (zb (jHas k y z i = true)))]) hx hb dX0_ownersOf_94 hl (k := 7) rfl (nI_add i 1) (by decide) rfl (fun ls hl => ?_)
            refine lv_goto (tgt := 6) hx hb dX0_ownersOf_97 (by decide) ?_
            exact ih_6 (i + 1) ls (show (i + 1) ≤ 4 from hlt) (show 4 - (i + 1) < 4 - i from by omega) (show lv_has ls 9 [(0, .ref (a 50)), (1, .int x), (2, .int y), (3, .int z), (4, .int w), (5, .int (jOw k x y z w (i + 1))), (6, .int (nI (i + 1)))] from lv_sub hl [3, 4, 5, 6, 7, 1, 0] rfl)
