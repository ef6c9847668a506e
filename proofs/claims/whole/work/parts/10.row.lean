theorem zlt {k n : Nat} (hk : k < 2 ^ 31) (hn : n < 2 ^ 31) (c : ¬ nI n ≤ nI k) : k < n := by
  rw [nI_leI hn hk] at c; omega
theorem zge {k n : Nat} (hk : k < 2 ^ 31) (hn : n < 2 ^ 31) (c : nI n ≤ nI k) : n ≤ k := (nI_leI hn hk).mp c
/-- whether one of the first n numbers is v -/
def hasB (f : Nat → Int32) (v : Int32) : Nat → Bool
  | 0 => false
  | n + 1 => hasB f v n || decide (f n = v)
theorem hasB_iff {f : Nat → Int32} {v : Int32} : ∀ n, hasB f v n = true ↔ ∃ k, k < n ∧ f k = v
  | 0 => ⟨fun h => by simp [hasB] at h, fun ⟨k, h, _⟩ => absurd h (by omega)⟩
  | n + 1 => by
    rw [hasB, Bool.or_eq_true, hasB_iff n, decide_eq_true_eq]
    constructor
    · rintro (⟨k, h1, h2⟩ | h)
      · exact ⟨k, by omega, h2⟩
      · exact ⟨n, by omega, h⟩
    · rintro ⟨k, h1, h2⟩
      by_cases hk : k = n
      · exact Or.inr (hk ▸ h2)
      · exact Or.inl ⟨k, by omega, h2⟩

set_option maxHeartbeats 4000000 in
set_option maxRecDepth 100000 in
theorem c_X5_size (l : Launch) (D : va_G) (cI cZ : ClassId) (r ra room n : Nat) (f : Nat → Int32) (hn : n ≤ room) (hr0 : room < 2 ^ 31) : RO l D cI cZ yX5_size wyX5_size ({ frames := 0, cells := 0, slots := 0, locals := 0 } : Room) [.ref r] (wRow r ra cI room n f) (nI n) := by
  refine Met.ofW (cc := cX5_size) (maxL := 1) (ret := (some .int)) (by decide) rfl ?_
  intro p e s m args below meth c s₁ B hml hv
  obtain ⟨rfl, hK, hP⟩ := hv
  have hx := B.exec
  have hb := B.bytes
  have hr := B.returns
  have hts0 := atoms_spec (ws := wyX5_size) B.pre
  have hts : ∀ w ∈ big, w.before _ s = true := fun w h => hts0 w (List.mem_cons_of_mem _ h)
  have hown : s.vm.findClass RX5 = some m.cls := findClass_of_methodNamed B.named
  have hlocks := B.notSynchronized
  have hl := lv_entry ([.ref r]) (n := 1) (Nat.le_of_ble_eq_true rfl)
  rw [lg_entry_eq]
  generalize (lg_sl ([.ref r]) ++ List.replicate (1 - (lg_sl ([.ref r])).length) Slot.unset).toArray = ls at hl ⊢
  have hl : lv_has ls 1 [(0, .ref r)] := hl
  refine lv_aload_n hx hb dX5_size_0 rfl (lv_at hl 0 rfl) ?_
  refine va_get (D := D) (ci := 5) (v := .int (nI n)) (C := RX5) (T := TX5) (N := 2) hx hb hts hin5 hown hK.1 hP 0 rfl rfl 1 (by decide) (hts _ fl_X5_15) (fun _ h9 => h9) rfl dX5_size_1 ?_
  exact ro_iret hx hb hr hlocks (rfl) dX5_size_4

set_option maxHeartbeats 4000000 in
set_option maxRecDepth 100000 in
theorem c_X5_get (l : Launch) (D : va_G) (cI cZ : ClassId) (r ra room n : Nat) (f : Nat → Int32) (hn : n ≤ room) (hr0 : room < 2 ^ 31) (i : Int32) : RO l D cI cZ yX5_get wyX5_get ({ frames := 0, cells := 0, slots := 0, locals := 0 } : Room) [.ref r, .int i] (wRow r ra cI room n f) (rg n f i) := by
  refine Met.ofW (cc := cX5_get) (maxL := 2) (ret := (some .int)) (by decide) rfl ?_
  intro p e s m args below meth c s₁ B hml hv
  obtain ⟨rfl, hK, hP⟩ := hv
  have hx := B.exec
  have hb := B.bytes
  have hr := B.returns
  have hts0 := atoms_spec (ws := wyX5_get) B.pre
  have hts : ∀ w ∈ big, w.before _ s = true := fun w h => hts0 w (List.mem_cons_of_mem _ h)
  have hown : s.vm.findClass RX5 = some m.cls := findClass_of_methodNamed B.named
  have hlocks := B.notSynchronized
  have hl := lv_entry ([.ref r, .int i]) (n := 2) (Nat.le_of_ble_eq_true rfl)
  rw [lg_entry_eq]
  generalize (lg_sl ([.ref r, .int i]) ++ List.replicate (2 - (lg_sl ([.ref r, .int i])).length) Slot.unset).toArray = ls at hl ⊢
  have hl : lv_has ls 2 [(0, .ref r), (1, .int i)] := hl
  refine lv_iload_n hx hb dX5_get_0 rfl (lv_at hl 1 rfl) ?_
  refine lv_if_lt (tgt := 30) hx hb dX5_get_1 (by decide) (fun c_1 => ?_) (fun c_1 => ?_)
  · skip
    refine lv_iconst (v := (-1)) hx hb dX5_get_30 (by decide) ?_
    exact ro_iret hx hb hr hlocks ((rg_neg c_1).symm) dX5_get_31
  · skip
    refine lv_iload_n hx hb dX5_get_4 rfl (lv_at hl 1 rfl) ?_
    refine lv_aload_n hx hb dX5_get_5 rfl (lv_at hl 0 rfl) ?_
    refine va_get (D := D) (ci := 5) (v := .int (nI n)) (C := RX5) (T := TX5) (N := 2) hx hb hts hin5 hown hK.1 hP 0 rfl rfl 1 (by decide) (hts _ fl_X5_15) (fun _ h9 => h9) rfl dX5_get_6 ?_
    refine lv_icmp_ge (tgt := 30) hx hb dX5_get_9 (by decide) (fun c_2 => ?_) (fun c_2 => ?_)
    · skip
      refine lv_iconst (v := (-1)) hx hb dX5_get_30 (by decide) ?_
      exact ro_iret hx hb hr hlocks ((rg_ge c_2).symm) dX5_get_31
    · skip
      refine lv_iload_n hx hb dX5_get_12 rfl (lv_at hl 1 rfl) ?_
      refine lv_aload_n hx hb dX5_get_13 rfl (lv_at hl 0 rfl) ?_
      refine va_get (D := D) (ci := 5) (v := .ref ra) (C := RX5) (T := TX5) (N := 2) hx hb hts hin5 hown hK.1 hP 0 rfl rfl 0 (by decide) (hts _ fl_X5_9) (fun _ h9 => h9) rfl dX5_get_14 ?_
      refine va_alen (v := nI room) hx hb hK.1 hP 1 0 rfl rfl rfl dX5_get_17 ?_
      refine lv_icmp_ge (tgt := 30) hx hb dX5_get_18 (by decide) (fun c_3 => ?_) (fun c_3 => ?_)
      · skip
        refine lv_iconst (v := (-1)) hx hb dX5_get_30 (by decide) ?_
        exact ro_iret hx hb hr hlocks (absurd (Int32.le_trans (nI_le hn hr0) c_3) c_2) dX5_get_31
      · skip
        refine lv_aload_n hx hb dX5_get_21 rfl (lv_at hl 0 rfl) ?_
        refine va_get (D := D) (ci := 5) (v := .ref ra) (C := RX5) (T := TX5) (N := 2) hx hb hts hin5 hown hK.1 hP 0 rfl rfl 0 (by decide) (hts _ fl_X5_9) (fun _ h9 => h9) rfl dX5_get_22 ?_
        refine lv_iload_n hx hb dX5_get_25 rfl (lv_at hl 1 rfl) ?_
        refine va_iald hx hb hK.1 hP 1 0 rfl rfl (vp_in_c hr0 c_1 c_3) dX5_get_26 ?_
        refine lv_goto (tgt := 31) hx hb dX5_get_27 (by decide) ?_
        exact ro_iret hx hb hr hlocks ((if_pos ⟨Int32.not_lt.mp c_1, Int32.not_le.mp c_2⟩).symm) dX5_get_31

set_option maxHeartbeats 4000000 in
set_option maxRecDepth 100000 in
theorem c_X5_put (l : Launch) (D : va_G) (cI cZ : ClassId) (r ra room n : Nat) (f : Nat → Int32) (hn : n ≤ room) (hr0 : room < 2 ^ 31) (i v : Int32) : MV l D cI cZ yX5_put wyX5_put ({ frames := 0, cells := 0, slots := 0, locals := 0 } : Room) [.ref r, .int i, .int v] (wRow r ra cI room n f) (fun _ => True) (fun (_ : Unit) => wRow r ra cI room n (rp n f i v)) := by
  refine Met.ofW (cc := cX5_put) (maxL := 3) (ret := none) (by decide) rfl ?_
  intro p e s m args below meth c s₁ B hml hv
  obtain ⟨rfl, hK, hP, hD0⟩ := hv
  have hx := B.exec
  have hb := B.bytes
  have hr := B.returns
  have hts0 := atoms_spec (ws := wyX5_put) B.pre
  have hts : ∀ w ∈ big, w.before _ s = true := fun w h => hts0 w (List.mem_cons_of_mem _ h)
  have hown : s.vm.findClass RX5 = some m.cls := findClass_of_methodNamed B.named
  have hlocks := B.notSynchronized
  have hD := D_inW hD0
  have hS : va_S (inW (wRow r ra cI room n f)) s.heap s.heap [] := va_S.rf
  have hl := lv_entry ([.ref r, .int i, .int v]) (n := 3) (Nat.le_of_ble_eq_true rfl)
  rw [lg_entry_eq]
  generalize (lg_sl ([.ref r, .int i, .int v]) ++ List.replicate (3 - (lg_sl ([.ref r, .int i, .int v])).length) Slot.unset).toArray = ls at hl ⊢
  have hl : lv_has ls 3 [(0, .ref r), (1, .int i), (2, .int v)] := hl
  refine lv_iload_n hx hb dX5_put_0 rfl (lv_at hl 1 rfl) ?_
  refine lv_if_lt (tgt := 28) hx hb dX5_put_1 (by decide) (fun c_1 => ?_) (fun c_1 => ?_)
  · skip
    exact mu_vret hx hb hr hlocks (()) (trivial) (by show va_P D vwCl (wRow r ra cI room n (rp n f i v)) _; rw [show rp n f i v = f from if_neg (fun q => absurd q.1 (Int32.not_le.mpr c_1))]; exact hP) hS dX5_put_28
  · skip
    refine lv_iload_n hx hb dX5_put_4 rfl (lv_at hl 1 rfl) ?_
    refine lv_aload_n hx hb dX5_put_5 rfl (lv_at hl 0 rfl) ?_
    refine va_get (D := D) (ci := 5) (v := .int (nI n)) (C := RX5) (T := TX5) (N := 2) hx hb hts hin5 hown hK.1 hP 0 rfl rfl 1 (by decide) (hts _ fl_X5_15) (fun _ h9 => h9) rfl dX5_put_6 ?_
    refine lv_icmp_ge (tgt := 28) hx hb dX5_put_9 (by decide) (fun c_2 => ?_) (fun c_2 => ?_)
    · skip
      exact mu_vret hx hb hr hlocks (()) (trivial) (by show va_P D vwCl (wRow r ra cI room n (rp n f i v)) _; rw [show rp n f i v = f from if_neg (fun q => absurd q.2 (Int32.not_lt.mpr c_2))]; exact hP) hS dX5_put_28
    · skip
      refine lv_iload_n hx hb dX5_put_12 rfl (lv_at hl 1 rfl) ?_
      refine lv_aload_n hx hb dX5_put_13 rfl (lv_at hl 0 rfl) ?_
      refine va_get (D := D) (ci := 5) (v := .ref ra) (C := RX5) (T := TX5) (N := 2) hx hb hts hin5 hown hK.1 hP 0 rfl rfl 0 (by decide) (hts _ fl_X5_9) (fun _ h9 => h9) rfl dX5_put_14 ?_
      refine va_alen (v := nI room) hx hb hK.1 hP 1 0 rfl rfl rfl dX5_put_17 ?_
      refine lv_icmp_ge (tgt := 28) hx hb dX5_put_18 (by decide) (fun c_3 => ?_) (fun c_3 => ?_)
      · skip
        exact mu_vret hx hb hr hlocks (()) (trivial) (absurd (Int32.le_trans (nI_le hn hr0) c_3) c_2) hS dX5_put_28
      · skip
        refine lv_aload_n hx hb dX5_put_21 rfl (lv_at hl 0 rfl) ?_
        refine va_get (D := D) (ci := 5) (v := .ref ra) (C := RX5) (T := TX5) (N := 2) hx hb hts hin5 hown hK.1 hP 0 rfl rfl 0 (by decide) (hts _ fl_X5_9) (fun _ h9 => h9) rfl dX5_put_22 ?_
        refine lv_iload_n hx hb dX5_put_25 rfl (lv_at hl 1 rfl) ?_
        refine lv_iload_n hx hb dX5_put_26 rfl (lv_at hl 2 rfl) ?_
        refine va_iast hx hb hK.1 hP hD hS 1 0 rfl rfl (vp_in_c hr0 c_1 c_3) dX5_put_27 (fun H locs hP hD hS => ?_)
        exact mu_vret hx hb hr hlocks (()) (trivial) (by show va_P D vwCl (wRow r ra cI room n (rp n f i v)) _; rw [show rp n f i v = upd f i.toNatClampNeg v from if_pos ⟨Int32.not_lt.mp c_1, Int32.not_le.mp c_2⟩]; exact hP) hS dX5_put_28

set_option maxHeartbeats 4000000 in
set_option maxRecDepth 100000 in
theorem c_X5_push (l : Launch) (D : va_G) (cI cZ : ClassId) (r ra room n : Nat) (f : Nat → Int32) (hn : n < room) (hr0 : room < 2 ^ 31) (v : Int32) : MI l D cI cZ yX5_push wyX5_push ({ frames := 0, cells := 0, slots := 0, locals := 0 } : Room) [.ref r, .int v] (wRow r ra cI room n f) (fun r _ => r = nI (n + 1)) (fun (_ : Unit) => wRow r ra cI room (n + 1) (upd f n v)) := by
  refine Met.ofW (cc := cX5_push) (maxL := 2) (ret := (some .int)) (by decide) rfl ?_
  intro p e s m args below meth c s₁ B hml hv
  obtain ⟨rfl, hK, hP, hD0⟩ := hv
  have hx := B.exec
  have hb := B.bytes
  have hr := B.returns
  have hts0 := atoms_spec (ws := wyX5_push) B.pre
  have hts : ∀ w ∈ big, w.before _ s = true := fun w h => hts0 w (List.mem_cons_of_mem _ h)
  have hown : s.vm.findClass RX5 = some m.cls := findClass_of_methodNamed B.named
  have hlocks := B.notSynchronized
  have hD := D_inW hD0
  have hS : va_S (inW (wRow r ra cI room n f)) s.heap s.heap [] := va_S.rf
  have hl := lv_entry ([.ref r, .int v]) (n := 2) (Nat.le_of_ble_eq_true rfl)
  rw [lg_entry_eq]
  generalize (lg_sl ([.ref r, .int v]) ++ List.replicate (2 - (lg_sl ([.ref r, .int v])).length) Slot.unset).toArray = ls at hl ⊢
  have hl : lv_has ls 2 [(0, .ref r), (1, .int v)] := hl
  refine lv_aload_n hx hb dX5_push_0 rfl (lv_at hl 0 rfl) ?_
  refine va_get (D := D) (ci := 5) (v := .int (nI n)) (C := RX5) (T := TX5) (N := 2) hx hb hts hin5 hown hK.1 hP 0 rfl rfl 1 (by decide) (hts _ fl_X5_15) (fun _ h9 => h9) rfl dX5_push_1 ?_
  refine lv_if_lt (tgt := 39) hx hb dX5_push_4 (by decide) (fun c_1 => ?_) (fun c_1 => ?_)
  · skip
    exact absurd c_1 (nI_pos (by omega))
  · skip
    refine lv_aload_n hx hb dX5_push_7 rfl (lv_at hl 0 rfl) ?_
    refine va_get (D := D) (ci := 5) (v := .int (nI n)) (C := RX5) (T := TX5) (N := 2) hx hb hts hin5 hown hK.1 hP 0 rfl rfl 1 (by decide) (hts _ fl_X5_15) (fun _ h9 => h9) rfl dX5_push_8 ?_
    refine lv_aload_n hx hb dX5_push_11 rfl (lv_at hl 0 rfl) ?_
    refine va_get (D := D) (ci := 5) (v := .ref ra) (C := RX5) (T := TX5) (N := 2) hx hb hts hin5 hown hK.1 hP 0 rfl rfl 0 (by decide) (hts _ fl_X5_9) (fun _ h9 => h9) rfl dX5_push_12 ?_
    refine va_alen (v := nI room) hx hb hK.1 hP 1 0 rfl rfl rfl dX5_push_15 ?_
    refine lv_icmp_ge (tgt := 39) hx hb dX5_push_16 (by decide) (fun c_2 => ?_) (fun c_2 => ?_)
    · skip
      exact absurd c_2 (nI_ge hn hr0)
    · skip
      refine lv_aload_n hx hb dX5_push_19 rfl (lv_at hl 0 rfl) ?_
      refine va_get (D := D) (ci := 5) (v := .ref ra) (C := RX5) (T := TX5) (N := 2) hx hb hts hin5 hown hK.1 hP 0 rfl rfl 0 (by decide) (hts _ fl_X5_9) (fun _ h9 => h9) rfl dX5_push_20 ?_
      refine lv_aload_n hx hb dX5_push_23 rfl (lv_at hl 0 rfl) ?_
      refine va_get (D := D) (ci := 5) (v := .int (nI n)) (C := RX5) (T := TX5) (N := 2) hx hb hts hin5 hown hK.1 hP 0 rfl rfl 1 (by decide) (hts _ fl_X5_15) (fun _ h9 => h9) rfl dX5_push_24 ?_
      refine lv_iload_n hx hb dX5_push_27 rfl (lv_at hl 1 rfl) ?_
      refine z_iast hx hb hK.1 hP hD hS 1 0 rfl rfl n rfl hn hr0  dX5_push_28 (fun H locs hP hD hS => ?_)
      have hP : va_P D vwCl (wRow r ra cI room n (upd f n v)) H := hP
      have hD : va_D _ (wRow r ra cI room n (upd f n v)) := hD
      refine lv_aload_n hx hb dX5_push_29 rfl (lv_at hl 0 rfl) ?_
      refine lv_dup hx hb dX5_push_30 rfl ?_
      refine va_get (D := D) (ci := 5) (v := .int (nI n)) (C := RX5) (T := TX5) (N := 2) hx hb hts hin5 hown hK.1 hP 0 rfl rfl 1 (by decide) (hts _ fl_X5_15) (fun _ h9 => h9) rfl dX5_push_31 ?_
      refine lv_iconst (v := 1) hx hb dX5_push_34 (by decide) ?_
      refine lv_iadd hx hb dX5_push_35 ?_
      rw [nI_1 n]
      refine va_put (D := D) (ci := 5) (v := .int (nI (n + 1))) (ty := .int) (C := RX5) (T := TX5) (N := 2) hx hb hts hin5 tyX5 tyX5_ok nmX5 hown hK.1 hP hD hS 0 rfl rfl 1 (by decide) (hts _ fl_X5_15) (fun _ h9 => h9) rfl (by decide +kernel) rfl rfl (Nat.le_of_ble_eq_true rfl) dX5_push_36 (fun H locs hP hD hS => ?_)
      have hP : va_P D vwCl (wRow r ra cI room (n + 1) (upd f n v)) H := hP
      have hD : va_D _ (wRow r ra cI room (n + 1) (upd f n v)) := hD
      refine lv_aload_n hx hb dX5_push_39 rfl (lv_at hl 0 rfl) ?_
      refine va_get (D := D) (ci := 5) (v := .int (nI (n + 1))) (C := RX5) (T := TX5) (N := 2) hx hb hts hin5 hown hK.1 hP 0 rfl rfl 1 (by decide) (hts _ fl_X5_15) (fun _ h9 => h9) rfl dX5_push_40 ?_
      exact mu_iret (v := (nI (n + 1))) hx hb hr hlocks (()) (rfl) (hP) hS dX5_push_43

set_option maxHeartbeats 4000000 in
set_option maxRecDepth 100000 in
theorem c_X5_clear (l : Launch) (D : va_G) (cI cZ : ClassId) (r ra room n : Nat) (f : Nat → Int32) : MI l D cI cZ yX5_clear wyX5_clear ({ frames := 0, cells := 0, slots := 0, locals := 0 } : Room) [.ref r] (wRow r ra cI room n f) (fun r _ => r = nI n) (fun (_ : Unit) => wRow r ra cI room 0 f) := by
  refine Met.ofW (cc := cX5_clear) (maxL := 2) (ret := (some .int)) (by decide) rfl ?_
  intro p e s m args below meth c s₁ B hml hv
  obtain ⟨rfl, hK, hP, hD0⟩ := hv
  have hx := B.exec
  have hb := B.bytes
  have hr := B.returns
  have hts0 := atoms_spec (ws := wyX5_clear) B.pre
  have hts : ∀ w ∈ big, w.before _ s = true := fun w h => hts0 w (List.mem_cons_of_mem _ h)
  have hown : s.vm.findClass RX5 = some m.cls := findClass_of_methodNamed B.named
  have hlocks := B.notSynchronized
  have hD := D_inW hD0
  have hS : va_S (inW (wRow r ra cI room n f)) s.heap s.heap [] := va_S.rf
  have hl := lv_entry ([.ref r]) (n := 2) (Nat.le_of_ble_eq_true rfl)
  rw [lg_entry_eq]
  generalize (lg_sl ([.ref r]) ++ List.replicate (2 - (lg_sl ([.ref r])).length) Slot.unset).toArray = ls at hl ⊢
  have hl : lv_has ls 2 [(0, .ref r)] := hl
  refine lv_aload_n hx hb dX5_clear_0 rfl (lv_at hl 0 rfl) ?_
  refine va_get (D := D) (ci := 5) (v := .int (nI n)) (C := RX5) (T := TX5) (N := 2) hx hb hts hin5 hown hK.1 hP 0 rfl rfl 1 (by decide) (hts _ fl_X5_15) (fun _ h9 => h9) rfl dX5_clear_1 ?_
  refine lv_istore_n (lv' := [(1, .int (nI n)), (0, .ref r)]) hx hb dX5_clear_4 rfl hl (by decide) rfl (fun ls hl => ?_)
  refine lv_aload_n hx hb dX5_clear_5 rfl (lv_at hl 1 rfl) ?_
  refine lv_iconst (v := 0) hx hb dX5_clear_6 (by decide) ?_
  refine va_put (D := D) (ci := 5) (v := .int 0) (ty := .int) (C := RX5) (T := TX5) (N := 2) hx hb hts hin5 tyX5 tyX5_ok nmX5 hown hK.1 hP hD hS 0 rfl rfl 1 (by decide) (hts _ fl_X5_15) (fun _ h9 => h9) rfl (by decide +kernel) rfl rfl (Nat.le_of_ble_eq_true rfl) dX5_clear_7 (fun H locs hP hD hS => ?_)
  have hP : va_P D vwCl (wRow r ra cI room 0 f) H := hP
  have hD : va_D _ (wRow r ra cI room 0 f) := hD
  refine lv_iload_n hx hb dX5_clear_10 rfl (lv_at hl 0 rfl) ?_
  exact mu_iret (v := (nI n)) hx hb hr hlocks (()) (rfl) (hP) hS dX5_clear_11

set_option maxHeartbeats 4000000 in
set_option maxRecDepth 100000 in
theorem c_X5_has (l : Launch) (D : va_G) (cI cZ : ClassId) (r ra room n : Nat) (f : Nat → Int32) (hn : n ≤ room) (hr0 : room < 2 ^ 31) (v : Int32) : RO l D cI cZ yX5_has wyX5_has ({ frames := 1, cells := 0, slots := 0, locals := 21 } : Room) [.ref r, .int v] (wRow r ra cI room n f) (zb (hasB f v n = true)) := by
  refine Met.ofW (cc := cX5_has) (maxL := 3) (ret := (some .boolean)) (by decide) rfl ?_
  intro p e s m args below meth c s₁ B hml hv
  obtain ⟨rfl, hK, hP⟩ := hv
  have hx := B.exec
  have hb := B.bytes
  have hr := B.returns
  have hts0 := atoms_spec (ws := wyX5_has) B.pre
  have hts : ∀ w ∈ big, w.before _ s = true := fun w h => hts0 w (List.mem_cons_of_mem _ h)
  have hown : s.vm.findClass RX5 = some m.cls := findClass_of_methodNamed B.named
  have hlocks := B.notSynchronized
  have hl := lv_entry ([.ref r, .int v]) (n := 3) (Nat.le_of_ble_eq_true rfl)
  rw [lg_entry_eq]
  generalize (lg_sl ([.ref r, .int v]) ++ List.replicate (3 - (lg_sl ([.ref r, .int v])).length) Slot.unset).toArray = ls at hl ⊢
  have hl : lv_has ls 3 [(0, .ref r), (1, .int v)] := hl
  refine lv_iconst (v := 0) hx hb dX5_has_0 (by decide) ?_
  refine lv_istore_n (lv' := [(2, .int 0), (0, .ref r), (1, .int v)]) hx hb dX5_has_1 rfl hl (by decide) rfl (fun ls hl => ?_)
  refine w_loop (α := Nat) (fun a9 => a9 ≤ n ∧ hasB f v a9 = false) (fun a9 => n - a9) (fun a9 => [(0, .ref r), (1, .int v), (2, .int (nI a9))]) 2 3 ?_ 0 (⟨Nat.zero_le _, rfl⟩) (show lv_has ls 3 [(0, .ref r), (1, .int v), (2, .int (nI 0))] from lv_sub hl [1, 2, 0] rfl)
  intro a9 ls hI hl ih_2
  obtain ⟨k, rfl⟩ : ∃ z, z = a9 := ⟨a9, rfl⟩
  have hI : k ≤ n ∧ hasB f v k = false := hI
  have hl : lv_has ls 3 [(0, .ref r), (1, .int v), (2, .int (nI k))] := hl
  refine lv_iload_n hx hb dX5_has_2 rfl (lv_at hl 2 rfl) ?_
  refine lv_aload_n hx hb dX5_has_3 rfl (lv_at hl 0 rfl) ?_
  refine va_get (D := D) (ci := 5) (v := .int (nI n)) (C := RX5) (T := TX5) (N := 2) hx hb hts hin5 hown hK.1 hP 0 rfl rfl 1 (by decide) (hts _ fl_X5_15) (fun _ h9 => h9) rfl dX5_has_4 ?_
  refine lv_icmp_ge (tgt := 27) hx hb dX5_has_7 (by decide) (fun c_1 => ?_) (fun c_1 => ?_)
  · skip
    have hge : n ≤ k := zge (by have := hI.1; omega) (by omega) c_1
    refine lv_iconst (v := 0) hx hb dX5_has_27 (by decide) ?_
    exact ro_zret hx hb hr hlocks (nar_zb _) ((zb_f (by rw [show n = k by have := hI.1; omega, hI.2]; decide)).symm) dX5_has_28
  · skip
    have hlt : k < n := zlt (by have := hI.1; omega) (by omega) c_1
    refine lv_aload_n hx hb dX5_has_10 rfl (lv_at hl 0 rfl) ?_
    refine lv_iload_n hx hb dX5_has_11 rfl (lv_at hl 2 rfl) ?_
    refine ro_V (As := [.int (nI k)]) (rest := []) ⟨hx, hb, hml, hown, hts⟩ (c_X5_get l D cI cZ r ra room n f hn hr0 (nI k)) (cw_X5_19 hts rfl rfl ⟨Nat.le_of_ble_eq_true rfl, Nat.le_of_ble_eq_true rfl⟩) hK (hP.sub [0, 1] rfl) (ci := 5) rfl rfl rfl hl.1 rfl (Nat.le_of_ble_eq_true rfl) dX5_has_12 ⟨Nat.zero_le _, Nat.zero_le _⟩ ?_
    rw [rg_in hlt (show n < 2 ^ 31 by have := hn; omega)]
    refine lv_iload_n hx hb dX5_has_15 rfl (lv_at hl 1 rfl) ?_
    refine lv_icmp_ne (tgt := 21) hx hb dX5_has_16 (by decide) (fun c_2 => ?_) (fun c_2 => ?_)
    · skip
      refine lv_iinc (v := (nI (k + 1))) (lv' := [(2, .int (nI (k + 1))), (0, .ref r), (1, .int v)]) hx hb dX5_has_21 hl (k := 2) rfl (nI_add k 1) (by decide) rfl (fun ls hl => ?_)
      refine lv_goto (tgt := 2) hx hb dX5_has_24 (by decide) ?_
      exact ih_2 (k + 1) ls (show (k + 1) ≤ n ∧ hasB f v (k + 1) = false from ⟨hlt, by rw [hasB, hI.2, Bool.false_or, decide_eq_false_iff_not]; exact c_2⟩) (show n - (k + 1) < n - k from by omega) (show lv_has ls 3 [(0, .ref r), (1, .int v), (2, .int (nI (k + 1)))] from lv_sub hl [1, 2, 0] rfl)
    · skip
      refine lv_iconst (v := 1) hx hb dX5_has_19 (by decide) ?_
      exact ro_zret hx hb hr hlocks (nar_zb _) ((zb_t ((hasB_iff n).mpr ⟨k, hlt, c_2⟩)).symm) dX5_has_20
