/-- ends, paths, length of the walk; its places; came; ways; worst; hounds -/
abbrev TZ : Type := Int32 × Int32 × Int32 × (Nat → Int32) × (Nat → Int32) × (Nat → Int32) × Int32 × (Nat → Int32)
def wM (am : Nat → Nat) (cI cZ : ClassId) (N : TN) (S : TS) (q : TQ) (o : TO) (ro : TR) (t : TT) (fo : TF) (k : TC) (z : TZ) : va_W :=
  [(am 0, .inr (10, [.int (nI (N_n N)), .ref (am 1), .ref (am 2), .ref (am 3), .int q.1, .int q.2.1, .int (nI (S_n S)), .ref (am 4), .ref (am 5), .ref (am 6), .ref (am 7), .ref (am 8), .ref (am 9), .ref (am 10), .ref (am 11), .int q.2.2, .int ro.2.2, .int t.2.2.2.2, .int z.1, .int z.2.1, .int z.2.2.1, .ref (am 12), .ref (am 13), .int (nI o.1), .ref (am 14), .ref (am 15), .int (nI ro.1), .ref (am 16), .int (nI t.1), .ref (am 17), .ref (am 18), .ref (am 19), .int (nI fo.1), .ref (am 20), .int z.2.2.2.2.2.2.1, .ref (am 21), .ref (am 22), .int (nI k.2.1), .ref (am 23), .ref (am 24), .ref (am 25)])),
  ((am 1), .inl (cI, (16, .inl (N_a N)))),
  ((am 2), .inl (cI, (16, .inl (N_b N)))),
  ((am 3), .inl (cI, (16, .inl (N_l N)))),
  ((am 4), .inl (cI, (24, .inl (S_p S)))),
  ((am 5), .inl (cI, (24, .inl (S_k S)))),
  ((am 6), .inl (cI, (24, .inl (S_v S)))),
  ((am 7), .inl (cI, (24, .inl (S_f S)))),
  ((am 8), .inl (cI, (24, .inl (S_d S)))),
  ((am 9), .inl (cI, (24, .inl (S_y S)))),
  ((am 10), .inl (cZ, (24, .inl (S_t S)))),
  ((am 11), .inl (cZ, (24, .inl (S_u S)))),
  ((am 12), .inl (cI, (32, .inl z.2.2.2.1))),
  ((am 13), .inl (cZ, (160, .inl z.2.2.2.2.1))),
  ((am 14), .inl (cI, (8, .inl o.2))),
  ((am 15), .inl (cI, (1360, .inl z.2.2.2.2.2.1))),
  ((am 16), .inl (cI, (10, .inl ro.2.1))),
  ((am 17), .inl (cI, (6, .inl t.2.2.1))),
  ((am 18), .inl (cI, (36, .inl t.2.1))),
  ((am 19), .inl (cZ, (6, .inl t.2.2.2.1))),
  ((am 20), .inl (cI, (5, .inl fo.2))),
  ((am 21), .inl (cI, (5, .inl z.2.2.2.2.2.2.2))),
  ((am 22), .inl (cI, (4, .inl k.1))),
  ((am 23), .inl (cI, (8, .inl k.2.2.1))),
  ((am 24), .inl (cI, (8, .inl k.2.2.2.1))),
  ((am 25), .inl (cI, (8, .inl k.2.2.2.2)))]
def mAt (N : TN) (k p : Int32) : Bool := decide ((0 ≤ k ∧ k ≤ nI (N_n N) - 1) ∧ (N_a N k.toNatClampNeg = p ∨ N_b N k.toNatClampNeg = p))
theorem mAt_nI {N : TN} {i : Nat} {p : Int32} (hN : N_n N < 2 ^ 31) (h : i < N_n N) : (mAt N (nI i) p = true) = (N_a N i = p ∨ N_b N i = p) := by
  unfold mAt
  rw [decide_eq_true_eq, nI_cl (by omega)]
  refine propext ⟨fun z => z.2, fun z => ⟨⟨nI_pos' (by omega), ?_⟩, z⟩⟩
  rw [show nI (N_n N) - 1 = nI (N_n N - 1) from pk_sub (a := N_n N) (b := 1) (by omega)]
  exact nI_le (by omega) (by omega)
def mOE (N : TN) (k : Nat) (p : Int32) : Int32 := if N_a N k = p then N_b N k else N_a N k
def mJo (N : TN) (x y : Int32) : Nat → Int32
  | 0 => -1
  | i + 1 => if mAt N (nI i) x = true ∧ mAt N (nI i) y = true ∧ ¬ x = y then nI i else mJo N x y i
def mPA (N : TN) (p : Int32) : Nat → Int32
  | 0 => 0
  | i + 1 => mPA N p i ||| (if mAt N (nI i) p = true then (1 : Int32) <<< (nI i &&& 31) else 0)
/-- come by: nothing, or one of the paths -/
def mCm (N : TN) (k : Int32) : Prop := k = -1 ∨ ∃ j : Nat, j < N_n N ∧ k = nI j
def mSb (S : TS) (q : TQ) (N : TN) (p k : Int32) (i : Nat) : Bool := decide (S_p S i = p ∧ 0 < S_f S i ∧ (if k = -1 then ¬ S_t S i = 0 else ((S_y S i >>> (k &&& 31)) &&& 1) = 1 ∧ (1 < S_k S i ∨ q.2.2 ≤ N_l N k.toNatClampNeg)))
def mSe (S : TS) (q : TQ) (N : TN) (p k : Int32) : Nat → Int32
  | 0 => 0
  | i + 1 => mSe S q N p k i ||| (if mSb S q N p k i = true then (1 : Int32) <<< (nI i &&& 31) else 0)
def mB (x : Int32) (i : Nat) : Bool := decide (((x >>> (nI i &&& 31)) &&& 1) = 1)
set_option maxHeartbeats 4000000 in
set_option maxRecDepth 100000 in
theorem c_X10_in (l : Launch) (D : va_G) (cI cZ : ClassId) (v lo hi : Int32) : RO l D cI cZ yX10_in wyX10_in ({ frames := 0, cells := 0, slots := 0, locals := 0 } : Room) [.int v, .int lo, .int hi] ([]) (zb (lo ≤ v ∧ v ≤ hi)) := by
  refine Met.ofW (cc := cX10_in) (maxL := 3) (ret := (some .boolean)) (by decide) rfl ?_
  intro p e s m args below meth c s₁ B hml hv
  obtain ⟨rfl, hK, hP⟩ := hv
  have hx := B.exec
  have hb := B.bytes
  have hr := B.returns
  have hts0 := atoms_spec (ws := wyX10_in) B.pre
  have hts : ∀ w ∈ big, w.before _ s = true := fun w h => hts0 w (List.mem_cons_of_mem _ h)
  have hown : s.vm.findClass RX10 = some m.cls := findClass_of_methodNamed B.named
  have hlocks := B.notSynchronized
  have hl := lv_entry ([.int v, .int lo, .int hi]) (n := 3) (Nat.le_of_ble_eq_true rfl)
  rw [lg_entry_eq]
  generalize (lg_sl ([.int v, .int lo, .int hi]) ++ List.replicate (3 - (lg_sl ([.int v, .int lo, .int hi])).length) Slot.unset).toArray = ls at hl ⊢
  have hl : lv_has ls 3 [(0, .int v), (1, .int lo), (2, .int hi)] := hl
  refine lv_iload_n hx hb dX10_in_0 rfl (lv_at hl 0 rfl) ?_
  refine lv_iload_n hx hb dX10_in_1 rfl (lv_at hl 1 rfl) ?_
  refine lv_icmp_lt (tgt := 14) hx hb dX10_in_2 (by decide) (fun c_1 => ?_) (fun c_1 => ?_)
  · skip
    refine lv_iconst (v := 0) hx hb dX10_in_14 (by decide) ?_
    exact ro_zret hx hb hr hlocks (nar_zb _) ((zb_f (fun q => absurd q.1 (Int32.not_le.mpr c_1))).symm) dX10_in_15
  · skip
    refine lv_iload_n hx hb dX10_in_5 rfl (lv_at hl 0 rfl) ?_
    refine lv_iload_n hx hb dX10_in_6 rfl (lv_at hl 2 rfl) ?_
    refine lv_icmp_gt (tgt := 14) hx hb dX10_in_7 (by decide) (fun c_2 => ?_) (fun c_2 => ?_)
    · skip
      refine lv_iconst (v := 0) hx hb dX10_in_14 (by decide) ?_
      exact ro_zret hx hb hr hlocks (nar_zb _) ((zb_f (fun q => absurd q.2 (Int32.not_le.mpr c_2))).symm) dX10_in_15
    · skip
      refine lv_iconst (v := 1) hx hb dX10_in_10 (by decide) ?_
      refine lv_goto (tgt := 15) hx hb dX10_in_11 (by decide) ?_
      exact ro_zret hx hb hr hlocks (nar_zb _) ((zb_t ⟨Int32.not_lt.mp c_1, Int32.not_lt.mp c_2⟩).symm) dX10_in_15

set_option maxHeartbeats 4000000 in
set_option maxRecDepth 100000 in
theorem c_X10_isPlace (l : Launch) (D : va_G) (cI cZ : ClassId) (v : Int32) : RO l D cI cZ yX10_isPlace wyX10_isPlace ({ frames := 1, cells := 0, slots := 0, locals := 22 } : Room) [.int v] ([]) (zb (0 ≤ v ∧ v ≤ 9)) := by
  refine Met.ofW (cc := cX10_isPlace) (maxL := 1) (ret := (some .boolean)) (by decide) rfl ?_
  intro p e s m args below meth c s₁ B hml hv
  obtain ⟨rfl, hK, hP⟩ := hv
  have hx := B.exec
  have hb := B.bytes
  have hr := B.returns
  have hts0 := atoms_spec (ws := wyX10_isPlace) B.pre
  have hts : ∀ w ∈ big, w.before _ s = true := fun w h => hts0 w (List.mem_cons_of_mem _ h)
  have hown : s.vm.findClass RX10 = some m.cls := findClass_of_methodNamed B.named
  have hlocks := B.notSynchronized
  have hl := lv_entry ([.int v]) (n := 1) (Nat.le_of_ble_eq_true rfl)
  rw [lg_entry_eq]
  generalize (lg_sl ([.int v]) ++ List.replicate (1 - (lg_sl ([.int v])).length) Slot.unset).toArray = ls at hl ⊢
  have hl : lv_has ls 1 [(0, .int v)] := hl
  refine lv_iload_n hx hb dX10_isPlace_0 rfl (lv_at hl 0 rfl) ?_
  refine lv_iconst (v := 0) hx hb dX10_isPlace_1 (by decide) ?_
  refine lv_bipush (v := 9) hx hb dX10_isPlace_2 (by decide) ?_
  refine ro_S (As := [.int v, .int 0, .int 9]) (rest := []) ⟨hx, hb, hml, hown, hts⟩ (c_X10_in l D cI cZ  v 0 9) (cw_X10_90 hts rfl rfl ⟨Nat.le_of_ble_eq_true rfl, Nat.le_of_ble_eq_true rfl⟩) hK P_nil rfl hl.1 rfl (Nat.le_of_ble_eq_true rfl) dX10_isPlace_4 ⟨Nat.zero_le _, Nat.zero_le _⟩ ?_
  exact ro_zret hx hb hr hlocks (nar_zb _) (rfl) dX10_isPlace_7

set_option maxHeartbeats 4000000 in
set_option maxRecDepth 100000 in
theorem c_X10_isAt (l : Launch) (D : va_G) (cI cZ : ClassId) (am : Nat → Nat) (N : TN) (hN16 : N_n N ≤ 16) (S : TS) (hS24 : S_n S ≤ 24) (q : TQ) (o : TO) (ho8 : o.1 ≤ 8) (ro : TR) (hr10 : ro.1 ≤ 10) (t : TT) (ht6 : t.1 ≤ 6) (fo : TF) (hf5 : fo.1 ≤ 5) (k : TC) (hk8 : k.2.1 ≤ 8) (z : TZ) (x p9 : Int32) : RO l D cI cZ yX10_isAt wyX10_isAt ({ frames := 1, cells := 0, slots := 0, locals := 22 } : Room) [.ref (am 0), .int x, .int p9] (wM am cI cZ N S q o ro t fo k z) (zb (mAt N x p9 = true)) := by
  refine Met.ofW (cc := cX10_isAt) (maxL := 3) (ret := (some .boolean)) (by decide) rfl ?_
  intro p e s m args below meth c s₁ B hml hv
  obtain ⟨rfl, hK, hP⟩ := hv
  have hx := B.exec
  have hb := B.bytes
  have hr := B.returns
  have hts0 := atoms_spec (ws := wyX10_isAt) B.pre
  have hts : ∀ w ∈ big, w.before _ s = true := fun w h => hts0 w (List.mem_cons_of_mem _ h)
  have hown : s.vm.findClass RX10 = some m.cls := findClass_of_methodNamed B.named
  have hlocks := B.notSynchronized
  have hl := lv_entry ([.ref (am 0), .int x, .int p9]) (n := 3) (Nat.le_of_ble_eq_true rfl)
  rw [lg_entry_eq]
  generalize (lg_sl ([.ref (am 0), .int x, .int p9]) ++ List.replicate (3 - (lg_sl ([.ref (am 0), .int x, .int p9])).length) Slot.unset).toArray = ls at hl ⊢
  have hl : lv_has ls 3 [(0, .ref (am 0)), (1, .int x), (2, .int p9)] := hl
  refine lv_iload_n hx hb dX10_isAt_0 rfl (lv_at hl 1 rfl) ?_
  refine lv_iconst (v := 0) hx hb dX10_isAt_1 (by decide) ?_
  refine lv_aload_n hx hb dX10_isAt_2 rfl (lv_at hl 0 rfl) ?_
  refine va_get (D := D) (ci := 10) (v := .int (nI (N_n N))) (C := RX10) (T := TX10) (N := 41) hx hb hts hin10 hown hK.1 hP 0 rfl rfl 0 (by decide) (hts _ fl_X10_94) (fun _ h9 => h9) rfl dX10_isAt_3 ?_
  refine lv_iconst (v := 1) hx hb dX10_isAt_6 (by decide) ?_
  refine lv_isub hx hb dX10_isAt_7 ?_
  refine ro_S (As := [.int x, .int 0, .int ((nI (N_n N)) - 1)]) (rest := []) ⟨hx, hb, hml, hown, hts⟩ (c_X10_in l D cI cZ  x 0 ((nI (N_n N)) - 1)) (cw_X10_90 hts rfl rfl ⟨Nat.le_of_ble_eq_true rfl, Nat.le_of_ble_eq_true rfl⟩) hK P_nil rfl hl.1 rfl (Nat.le_of_ble_eq_true rfl) dX10_isAt_8 ⟨Nat.zero_le _, Nat.zero_le _⟩ ?_
  refine lv_if_eq (tgt := 38) hx hb dX10_isAt_11 (by decide) (fun c_1 => ?_) (fun c_1 => ?_)
  · skip
    have c_1 := zb_eq0 c_1
    refine lv_iconst (v := 0) hx hb dX10_isAt_38 (by decide) ?_
    exact ro_zret hx hb hr hlocks (nar_zb _) (by unfold mAt; simp only [decide_eq_true_eq]; exact (zb_f (fun z => c_1 z.1)).symm) dX10_isAt_39
  · skip
    have c_1 := zb_ne0 c_1
    obtain ⟨j, hj, ej⟩ := ix_of (n := N_n N) c_1 (by omega)
    have hl : lv_has ls 3 [(0, .ref (am 0)), (1, .int (nI j)), (2, .int p9)] := by rw [← ej]; exact hl
    rw [ej] at c_1
    refine lv_aload_n hx hb dX10_isAt_14 rfl (lv_at hl 0 rfl) ?_
    refine va_get (D := D) (ci := 10) (v := .ref (am 1)) (C := RX10) (T := TX10) (N := 41) hx hb hts hin10 hown hK.1 hP 0 rfl rfl 1 (by decide) (hts _ fl_X10_7) (fun _ h9 => h9) rfl dX10_isAt_15 ?_
    refine lv_iload_n hx hb dX10_isAt_18 rfl (lv_at hl 1 rfl) ?_
    refine z_iald hx hb hK.1 hP 1 0 rfl rfl j rfl (show j < 16 by omega) (by decide) dX10_isAt_19 ?_
    refine lv_iload_n hx hb dX10_isAt_20 rfl (lv_at hl 2 rfl) ?_
    refine lv_icmp_eq (tgt := 34) hx hb dX10_isAt_21 (by decide) (fun c_2 => ?_) (fun c_2 => ?_)
    · skip
      refine lv_iconst (v := 1) hx hb dX10_isAt_34 (by decide) ?_
      refine lv_goto (tgt := 39) hx hb dX10_isAt_35 (by decide) ?_
      exact ro_zret hx hb hr hlocks (nar_zb _) (by unfold mAt; simp only [decide_eq_true_eq]; rw [ej, nI_cl (by omega)]; exact (zb_t ⟨c_1, Or.inl c_2⟩).symm) dX10_isAt_39
    · skip
      refine lv_aload_n hx hb dX10_isAt_24 rfl (lv_at hl 0 rfl) ?_
      refine va_get (D := D) (ci := 10) (v := .ref (am 2)) (C := RX10) (T := TX10) (N := 41) hx hb hts hin10 hown hK.1 hP 0 rfl rfl 2 (by decide) (hts _ fl_X10_13) (fun _ h9 => h9) rfl dX10_isAt_25 ?_
      refine lv_iload_n hx hb dX10_isAt_28 rfl (lv_at hl 1 rfl) ?_
      refine z_iald hx hb hK.1 hP 2 0 rfl rfl j rfl (show j < 16 by omega) (by decide) dX10_isAt_29 ?_
      refine lv_iload_n hx hb dX10_isAt_30 rfl (lv_at hl 2 rfl) ?_
      refine lv_icmp_ne (tgt := 38) hx hb dX10_isAt_31 (by decide) (fun c_3 => ?_) (fun c_3 => ?_)
      · skip
        refine lv_iconst (v := 0) hx hb dX10_isAt_38 (by decide) ?_
        exact ro_zret hx hb hr hlocks (nar_zb _) (by unfold mAt; simp only [decide_eq_true_eq]; rw [ej, nI_cl (by omega)]; exact (zb_f (fun z => z.2.elim c_2 c_3)).symm) dX10_isAt_39
      · skip
        refine lv_iconst (v := 1) hx hb dX10_isAt_34 (by decide) ?_
        refine lv_goto (tgt := 39) hx hb dX10_isAt_35 (by decide) ?_
        exact ro_zret hx hb hr hlocks (nar_zb _) (by unfold mAt; simp only [decide_eq_true_eq]; rw [ej, nI_cl (by omega)]; exact (zb_t ⟨c_1, Or.inr c_3⟩).symm) dX10_isAt_39

set_option maxHeartbeats 4000000 in
set_option maxRecDepth 100000 in
theorem c_X10_otherEnd (l : Launch) (D : va_G) (cI cZ : ClassId) (am : Nat → Nat) (N : TN) (hN16 : N_n N ≤ 16) (S : TS) (hS24 : S_n S ≤ 24) (q : TQ) (o : TO) (ho8 : o.1 ≤ 8) (ro : TR) (hr10 : ro.1 ≤ 10) (t : TT) (ht6 : t.1 ≤ 6) (fo : TF) (hf5 : fo.1 ≤ 5) (k : TC) (hk8 : k.2.1 ≤ 8) (z : TZ) (j : Nat) (hj : j < 16) (p9 : Int32) : RO l D cI cZ yX10_otherEnd wyX10_otherEnd ({ frames := 0, cells := 0, slots := 0, locals := 0 } : Room) [.ref (am 0), .int (nI j), .int p9] (wM am cI cZ N S q o ro t fo k z) (mOE N j p9) := by
  refine Met.ofW (cc := cX10_otherEnd) (maxL := 3) (ret := (some .int)) (by decide) rfl ?_
  intro p e s m args below meth c s₁ B hml hv
  obtain ⟨rfl, hK, hP⟩ := hv
  have hx := B.exec
  have hb := B.bytes
  have hr := B.returns
  have hts0 := atoms_spec (ws := wyX10_otherEnd) B.pre
  have hts : ∀ w ∈ big, w.before _ s = true := fun w h => hts0 w (List.mem_cons_of_mem _ h)
  have hown : s.vm.findClass RX10 = some m.cls := findClass_of_methodNamed B.named
  have hlocks := B.notSynchronized
  have hl := lv_entry ([.ref (am 0), .int (nI j), .int p9]) (n := 3) (Nat.le_of_ble_eq_true rfl)
  rw [lg_entry_eq]
  generalize (lg_sl ([.ref (am 0), .int (nI j), .int p9]) ++ List.replicate (3 - (lg_sl ([.ref (am 0), .int (nI j), .int p9])).length) Slot.unset).toArray = ls at hl ⊢
  have hl : lv_has ls 3 [(0, .ref (am 0)), (1, .int (nI j)), (2, .int p9)] := hl
  refine lv_aload_n hx hb dX10_otherEnd_0 rfl (lv_at hl 0 rfl) ?_
  refine va_get (D := D) (ci := 10) (v := .ref (am 1)) (C := RX10) (T := TX10) (N := 41) hx hb hts hin10 hown hK.1 hP 0 rfl rfl 1 (by decide) (hts _ fl_X10_7) (fun _ h9 => h9) rfl dX10_otherEnd_1 ?_
  refine lv_iload_n hx hb dX10_otherEnd_4 rfl (lv_at hl 1 rfl) ?_
  refine z_iald hx hb hK.1 hP 1 0 rfl rfl j rfl hj (by decide) dX10_otherEnd_5 ?_
  refine lv_iload_n hx hb dX10_otherEnd_6 rfl (lv_at hl 2 rfl) ?_
  refine lv_icmp_ne (tgt := 19) hx hb dX10_otherEnd_7 (by decide) (fun c_1 => ?_) (fun c_1 => ?_)
  · skip
    refine lv_aload_n hx hb dX10_otherEnd_19 rfl (lv_at hl 0 rfl) ?_
    refine va_get (D := D) (ci := 10) (v := .ref (am 1)) (C := RX10) (T := TX10) (N := 41) hx hb hts hin10 hown hK.1 hP 0 rfl rfl 1 (by decide) (hts _ fl_X10_7) (fun _ h9 => h9) rfl dX10_otherEnd_20 ?_
    refine lv_iload_n hx hb dX10_otherEnd_23 rfl (lv_at hl 1 rfl) ?_
    refine z_iald hx hb hK.1 hP 1 0 rfl rfl j rfl hj (by decide) dX10_otherEnd_24 ?_
    exact ro_iret hx hb hr hlocks (by unfold mOE; (first | rw [if_pos c_1] | rw [if_neg c_1] | skip)) dX10_otherEnd_25
  · skip
    refine lv_aload_n hx hb dX10_otherEnd_10 rfl (lv_at hl 0 rfl) ?_
    refine va_get (D := D) (ci := 10) (v := .ref (am 2)) (C := RX10) (T := TX10) (N := 41) hx hb hts hin10 hown hK.1 hP 0 rfl rfl 2 (by decide) (hts _ fl_X10_13) (fun _ h9 => h9) rfl dX10_otherEnd_11 ?_
    refine lv_iload_n hx hb dX10_otherEnd_14 rfl (lv_at hl 1 rfl) ?_
    refine z_iald hx hb hK.1 hP 2 0 rfl rfl j rfl hj (by decide) dX10_otherEnd_15 ?_
    refine lv_goto (tgt := 25) hx hb dX10_otherEnd_16 (by decide) ?_
    exact ro_iret hx hb hr hlocks (by unfold mOE; (first | rw [if_pos c_1] | rw [if_neg c_1] | skip)) dX10_otherEnd_25

set_option maxHeartbeats 4000000 in
set_option maxRecDepth 100000 in
theorem c_X10_joins (l : Launch) (D : va_G) (cI cZ : ClassId) (am : Nat → Nat) (N : TN) (hN16 : N_n N ≤ 16) (S : TS) (hS24 : S_n S ≤ 24) (q : TQ) (o : TO) (ho8 : o.1 ≤ 8) (ro : TR) (hr10 : ro.1 ≤ 10) (t : TT) (ht6 : t.1 ≤ 6) (fo : TF) (hf5 : fo.1 ≤ 5) (k : TC) (hk8 : k.2.1 ≤ 8) (z : TZ) (x y : Int32) : RO l D cI cZ yX10_joins wyX10_joins ({ frames := 2, cells := 0, slots := 0, locals := 44 } : Room) [.ref (am 0), .int x, .int y] (wM am cI cZ N S q o ro t fo k z) (mJo N x y (N_n N)) := by
  refine Met.ofW (cc := cX10_joins) (maxL := 5) (ret := (some .int)) (by decide) rfl ?_
  intro p e s m args below meth c s₁ B hml hv
  obtain ⟨rfl, hK, hP⟩ := hv
  have hx := B.exec
  have hb := B.bytes
  have hr := B.returns
  have hts0 := atoms_spec (ws := wyX10_joins) B.pre
  have hts : ∀ w ∈ big, w.before _ s = true := fun w h => hts0 w (List.mem_cons_of_mem _ h)
  have hown : s.vm.findClass RX10 = some m.cls := findClass_of_methodNamed B.named
  have hlocks := B.notSynchronized
  have hl := lv_entry ([.ref (am 0), .int x, .int y]) (n := 5) (Nat.le_of_ble_eq_true rfl)
  rw [lg_entry_eq]
  generalize (lg_sl ([.ref (am 0), .int x, .int y]) ++ List.replicate (5 - (lg_sl ([.ref (am 0), .int x, .int y])).length) Slot.unset).toArray = ls at hl ⊢
  have hl : lv_has ls 5 [(0, .ref (am 0)), (1, .int x), (2, .int y)] := hl
  refine lv_iconst (v := (-1)) hx hb dX10_joins_0 (by decide) ?_
  refine lv_istore_n (lv' := [(3, .int (-1)), (0, .ref (am 0)), (1, .int x), (2, .int y)]) hx hb dX10_joins_1 rfl hl (by decide) rfl (fun ls hl => ?_)
  refine lv_iconst (v := 0) hx hb dX10_joins_2 (by decide) ?_
  refine lv_istore (lv' := [(4, .int 0), (3, .int (-1)), (0, .ref (am 0)), (1, .int x), (2, .int y)]) hx hb dX10_joins_3 hl (by decide) rfl (fun ls hl => ?_)
  refine w_loop (α := Nat) (fun a9 => a9 ≤ N_n N) (fun a9 => N_n N - a9) (fun a9 => [(0, .ref (am 0)), (1, .int x), (2, .int y), (3, .int (mJo N x y a9)), (4, .int (nI a9))]) 5 5 ?_ 0 (Nat.zero_le _) (show lv_has ls 5 [(0, .ref (am 0)), (1, .int x), (2, .int y), (3, .int (mJo N x y 0)), (4, .int (nI 0))] from lv_sub hl [2, 3, 4, 1, 0] rfl)
  intro a9 ls hI hl ih_5
  obtain ⟨i, rfl⟩ : ∃ z, z = a9 := ⟨a9, rfl⟩
  have hI : i ≤ N_n N := hI
  have hl : lv_has ls 5 [(0, .ref (am 0)), (1, .int x), (2, .int y), (3, .int (mJo N x y i)), (4, .int (nI i))] := hl
  refine lv_iload hx hb dX10_joins_5 (lv_at hl 4 rfl) ?_
  refine lv_aload_n hx hb dX10_joins_7 rfl (lv_at hl 0 rfl) ?_
  refine va_get (D := D) (ci := 10) (v := .int (nI (N_n N))) (C := RX10) (T := TX10) (N := 41) hx hb hts hin10 hown hK.1 hP 0 rfl rfl 0 (by decide) (hts _ fl_X10_94) (fun _ h9 => h9) rfl dX10_joins_8 ?_
  refine lv_icmp_ge (tgt := 52) hx hb dX10_joins_11 (by decide) (fun c_1 => ?_) (fun c_1 => ?_)
  · skip
    have hge : N_n N ≤ i := zge (by have := hI; have := hN16; omega) (by have := hN16; omega) c_1
    refine lv_iload_n hx hb dX10_joins_52 rfl (lv_at hl 3 rfl) ?_
    exact ro_iret hx hb hr hlocks (by rw [show N_n N = i by omega]) dX10_joins_53
  · skip
    have hlt : i < N_n N := zlt (by have := hI; have := hN16; omega) (by have := hN16; omega) c_1
    refine lv_aload_n hx hb dX10_joins_14 rfl (lv_at hl 0 rfl) ?_
    refine lv_iload hx hb dX10_joins_15 (lv_at hl 4 rfl) ?_
    refine lv_iload_n hx hb dX10_joins_17 rfl (lv_at hl 1 rfl) ?_
    refine ro_V (As := [.int (nI i), .int x]) (rest := []) ⟨hx, hb, hml, hown, hts⟩ (c_X10_isAt l D cI cZ am N hN16 S hS24 q o ho8 ro hr10 t ht6 fo hf5 k hk8 z (nI i) x) (cw_X10_97 hts rfl rfl ⟨Nat.le_of_ble_eq_true rfl, Nat.le_of_ble_eq_true rfl⟩) hK hP (ci := 10) rfl rfl rfl hl.1 rfl (Nat.le_of_ble_eq_true rfl) dX10_joins_18 ⟨Nat.zero_le _, Nat.zero_le _⟩ ?_
    refine lv_if_eq (tgt := 44) hx hb dX10_joins_21 (by decide) (fun c_2 => ?_) (fun c_2 => ?_)
    · skip
      have c_2 := zb_eq0 c_2
      refine lv_iload_n hx hb dX10_joins_44 rfl (lv_at hl 3 rfl) ?_
      refine lv_istore_n (lv' := [(3, .int (mJo N x y i)), (0, .ref (am 0)), (1, .int x), (2, .int y), (4, .int (nI i))]) hx hb dX10_joins_45 rfl hl (by decide) rfl (fun ls hl => ?_)
      have hl : lv_has ls 5 [(3, .int (mJo N x y (i + 1))), (0, .ref (am 0)), (1, .int x), (2, .int y), (4, .int (nI i))] := by rw [show mJo N x y (i + 1) = (mJo N x y i) from by rw [mJo, if_neg (fun z9 => c_2 z9.1)]]; exact hl
      refine lv_iinc (v := (nI (i + 1))) (lv' := [(4, .int (nI (i + 1))), (3, .int (mJo N x y (i + 1))), (0, .ref (am 0)), (1, .int x), (2, .int y)]) hx hb dX10_joins_46 hl (k := 4) rfl (nI_add i 1) (by decide) rfl (fun ls hl => ?_)
      refine lv_goto (tgt := 5) hx hb dX10_joins_49 (by decide) ?_
      exact ih_5 (i + 1) ls (show (i + 1) ≤ N_n N from hlt) (show N_n N - (i + 1) < N_n N - i from by omega) (show lv_has ls 5 [(0, .ref (am 0)), (1, .int x), (2, .int y), (3, .int (mJo N x y (i + 1))), (4, .int (nI (i + 1)))] from lv_sub hl [2, 3, 4, 1, 0] rfl)
    · skip
      have c_2 := zb_ne0 c_2
      refine lv_aload_n hx hb dX10_joins_24 rfl (lv_at hl 0 rfl) ?_
      refine lv_iload hx hb dX10_joins_25 (lv_at hl 4 rfl) ?_
      refine lv_iload_n hx hb dX10_joins_27 rfl (lv_at hl 2 rfl) ?_
      refine ro_V (As := [.int (nI i), .int y]) (rest := []) ⟨hx, hb, hml, hown, hts⟩ (c_X10_isAt l D cI cZ am N hN16 S hS24 q o ho8 ro hr10 t ht6 fo hf5 k hk8 z (nI i) y) (cw_X10_97 hts rfl rfl ⟨Nat.le_of_ble_eq_true rfl, Nat.le_of_ble_eq_true rfl⟩) hK hP (ci := 10) rfl rfl rfl hl.1 rfl (Nat.le_of_ble_eq_true rfl) dX10_joins_28 ⟨Nat.zero_le _, Nat.zero_le _⟩ ?_
      refine lv_if_eq (tgt := 44) hx hb dX10_joins_31 (by decide) (fun c_3 => ?_) (fun c_3 => ?_)
      · skip
        have c_3 := zb_eq0 c_3
        refine lv_iload_n hx hb dX10_joins_44 rfl (lv_at hl 3 rfl) ?_
        refine lv_istore_n (lv' := [(3, .int (mJo N x y i)), (0, .ref (am 0)), (1, .int x), (2, .int y), (4, .int (nI i))]) hx hb dX10_joins_45 rfl hl (by decide) rfl (fun ls hl => ?_)
        have hl : lv_has ls 5 [(3, .int (mJo N x y (i + 1))), (0, .ref (am 0)), (1, .int x), (2, .int y), (4, .int (nI i))] := by rw [show mJo N x y (i + 1) = (mJo N x y i) from by rw [mJo, if_neg (fun z9 => c_3 z9.2.1)]]; exact hl
        refine lv_iinc (v := (nI (i + 1))) (lv' := [(4, .int (nI (i + 1))), (3, .int (mJo N x y (i + 1))), (0, .ref (am 0)), (1, .int x), (2, .int y)]) hx hb dX10_joins_46 hl (k := 4) rfl (nI_add i 1) (by decide) rfl (fun ls hl => ?_)
        refine lv_goto (tgt := 5) hx hb dX10_joins_49 (by decide) ?_
        exact ih_5 (i + 1) ls (show (i + 1) ≤ N_n N from hlt) (show N_n N - (i + 1) < N_n N - i from by omega) (show lv_has ls 5 [(0, .ref (am 0)), (1, .int x), (2, .int y), (3, .int (mJo N x y (i + 1))), (4, .int (nI (i + 1)))] from lv_sub hl [2, 3, 4, 1, 0] rfl)
      · skip
        have c_3 := zb_ne0 c_3
        refine lv_iload_n hx hb dX10_joins_34 rfl (lv_at hl 1 rfl) ?_
        refine lv_iload_n hx hb dX10_joins_35 rfl (lv_at hl 2 rfl) ?_
        refine lv_icmp_eq (tgt := 44) hx hb dX10_joins_36 (by decide) (fun c_4 => ?_) (fun c_4 => ?_)
        · skip
          refine lv_iload_n hx hb dX10_joins_44 rfl (lv_at hl 3 rfl) ?_
          refine lv_istore_n (lv' := [(3, .int (mJo N x y i)), (0, .ref (am 0)), (1, .int x), (2, .int y), (4, .int (nI i))]) hx hb dX10_joins_45 rfl hl (by decide) rfl (fun ls hl => ?_)
          have hl : lv_has ls 5 [(3, .int (mJo N x y (i + 1))), (0, .ref (am 0)), (1, .int x), (2, .int y), (4, .int (nI i))] := by rw [show mJo N x y (i + 1) = (mJo N x y i) from by rw [mJo, if_neg (fun z9 => z9.2.2 c_4)]]; exact hl
          refine lv_iinc (v := (nI (i + 1))) (lv' := [(4, .int (nI (i + 1))), (3, .int (mJo N x y (i + 1))), (0, .ref (am 0)), (1, .int x), (2, .int y)]) hx hb dX10_joins_46 hl (k := 4) rfl (nI_add i 1) (by decide) rfl (fun ls hl => ?_)
          refine lv_goto (tgt := 5) hx hb dX10_joins_49 (by decide) ?_
          exact ih_5 (i + 1) ls (show (i + 1) ≤ N_n N from hlt) (show N_n N - (i + 1) < N_n N - i from by omega) (show lv_has ls 5 [(0, .ref (am 0)), (1, .int x), (2, .int y), (3, .int (mJo N x y (i + 1))), (4, .int (nI (i + 1)))] from lv_sub hl [2, 3, 4, 1, 0] rfl)
        · skip
          refine lv_iload hx hb dX10_joins_39 (lv_at hl 4 rfl) ?_
          refine lv_goto (tgt := 45) hx hb dX10_joins_41 (by decide) ?_
          refine lv_istore_n (lv' := [(3, .int (nI i)), (0, .ref (am 0)), (1, .int x), (2, .int y), (4, .int (nI i))]) hx hb dX10_joins_45 rfl hl (by decide) rfl (fun ls hl => ?_)
          have hl : lv_has ls 5 [(3, .int (mJo N x y (i + 1))), (0, .ref (am 0)), (1, .int x), (2, .int y), (4, .int (nI i))] := by rw [show mJo N x y (i + 1) = (nI i) from by rw [mJo, if_pos ⟨c_2, c_3, c_4⟩]]; exact hl
          refine lv_iinc (v := (nI (i + 1))) (lv' := [(4, .int (nI (i + 1))), (3, .int (mJo N x y (i + 1))), (0, .ref (am 0)), (1, .int x), (2, .int y)]) hx hb dX10_joins_46 hl (k := 4) rfl (nI_add i 1) (by decide) rfl (fun ls hl => ?_)
          refine lv_goto (tgt := 5) hx hb dX10_joins_49 (by decide) ?_
          exact ih_5 (i + 1) ls (show (i + 1) ≤ N_n N from hlt) (show N_n N - (i + 1) < N_n N - i from by omega) (show lv_has ls 5 [(0, .ref (am 0)), (1, .int x), (2, .int y), (3, .int (mJo N x y (i + 1))), (4, .int (nI (i + 1)))] from lv_sub hl [2, 3, 4, 1, 0] rfl)

set_option maxHeartbeats 4000000 in
set_option maxRecDepth 100000 in
theorem c_X10_pathsAt (l : Launch) (D : va_G) (cI cZ : ClassId) (am : Nat → Nat) (N : TN) (hN16 : N_n N ≤ 16) (S : TS) (hS24 : S_n S ≤ 24) (q : TQ) (o : TO) (ho8 : o.1 ≤ 8) (ro : TR) (hr10 : ro.1 ≤ 10) (t : TT) (ht6 : t.1 ≤ 6) (fo : TF) (hf5 : fo.1 ≤ 5) (k : TC) (hk8 : k.2.1 ≤ 8) (z : TZ) (x : Int32) : RO l D cI cZ yX10_pathsAt wyX10_pathsAt ({ frames := 2, cells := 0, slots := 0, locals := 44 } : Room) [.ref (am 0), .int x] (wM am cI cZ N S q o ro t fo k z) (mPA N x (N_n N)) := by
  refine Met.ofW (cc := cX10_pathsAt) (maxL := 4) (ret := (some .int)) (by decide) rfl ?_
  intro p e s m args below meth c s₁ B hml hv
  obtain ⟨rfl, hK, hP⟩ := hv
  have hx := B.exec
  have hb := B.bytes
  have hr := B.returns
  have hts0 := atoms_spec (ws := wyX10_pathsAt) B.pre
  have hts : ∀ w ∈ big, w.before _ s = true := fun w h => hts0 w (List.mem_cons_of_mem _ h)
  have hown : s.vm.findClass RX10 = some m.cls := findClass_of_methodNamed B.named
  have hlocks := B.notSynchronized
  have hl := lv_entry ([.ref (am 0), .int x]) (n := 4) (Nat.le_of_ble_eq_true rfl)
  rw [lg_entry_eq]
  generalize (lg_sl ([.ref (am 0), .int x]) ++ List.replicate (4 - (lg_sl ([.ref (am 0), .int x])).length) Slot.unset).toArray = ls at hl ⊢
  have hl : lv_has ls 4 [(0, .ref (am 0)), (1, .int x)] := hl
  refine lv_iconst (v := 0) hx hb dX10_pathsAt_0 (by decide) ?_
  refine lv_istore_n (lv' := [(2, .int 0), (0, .ref (am 0)), (1, .int x)]) hx hb dX10_pathsAt_1 rfl hl (by decide) rfl (fun ls hl => ?_)
  refine lv_iconst (v := 0) hx hb dX10_pathsAt_2 (by decide) ?_
  refine lv_istore_n (lv' := [(3, .int 0), (2, .int 0), (0, .ref (am 0)), (1, .int x)]) hx hb dX10_pathsAt_3 rfl hl (by decide) rfl (fun ls hl => ?_)
  refine w_loop (α := Nat) (fun a9 => a9 ≤ N_n N) (fun a9 => N_n N - a9) (fun a9 => [(0, .ref (am 0)), (1, .int x), (2, .int (mPA N x a9)), (3, .int (nI a9))]) 4 4 ?_ 0 (Nat.zero_le _) (show lv_has ls 4 [(0, .ref (am 0)), (1, .int x), (2, .int (mPA N x 0)), (3, .int (nI 0))] from lv_sub hl [2, 3, 1, 0] rfl)
  intro a9 ls hI hl ih_4
  obtain ⟨i, rfl⟩ : ∃ z, z = a9 := ⟨a9, rfl⟩
  have hI : i ≤ N_n N := hI
  have hl : lv_has ls 4 [(0, .ref (am 0)), (1, .int x), (2, .int (mPA N x i)), (3, .int (nI i))] := hl
  refine lv_iload_n hx hb dX10_pathsAt_4 rfl (lv_at hl 3 rfl) ?_
  refine lv_aload_n hx hb dX10_pathsAt_5 rfl (lv_at hl 0 rfl) ?_
  refine va_get (D := D) (ci := 10) (v := .int (nI (N_n N))) (C := RX10) (T := TX10) (N := 41) hx hb hts hin10 hown hK.1 hP 0 rfl rfl 0 (by decide) (hts _ fl_X10_94) (fun _ h9 => h9) rfl dX10_pathsAt_6 ?_
  refine lv_icmp_ge (tgt := 37) hx hb dX10_pathsAt_9 (by decide) (fun c_1 => ?_) (fun c_1 => ?_)
  · skip
    have hge : N_n N ≤ i := zge (by have := hI; have := hN16; omega) (by have := hN16; omega) c_1
    refine lv_iload_n hx hb dX10_pathsAt_37 rfl (lv_at hl 2 rfl) ?_
    exact ro_iret hx hb hr hlocks (by rw [show N_n N = i by omega]) dX10_pathsAt_38
  · skip
    have hlt : i < N_n N := zlt (by have := hI; have := hN16; omega) (by have := hN16; omega) c_1
    refine lv_iload_n hx hb dX10_pathsAt_12 rfl (lv_at hl 2 rfl) ?_
    refine lv_aload_n hx hb dX10_pathsAt_13 rfl (lv_at hl 0 rfl) ?_
    refine lv_iload_n hx hb dX10_pathsAt_14 rfl (lv_at hl 3 rfl) ?_
    refine lv_iload_n hx hb dX10_pathsAt_15 rfl (lv_at hl 1 rfl) ?_
    refine ro_V (As := [.int (nI i), .int x]) (rest := [.int (mPA N x i)]) ⟨hx, hb, hml, hown, hts⟩ (c_X10_isAt l D cI cZ am N hN16 S hS24 q o ho8 ro hr10 t ht6 fo hf5 k hk8 z (nI i) x) (cw_X10_97 hts rfl rfl ⟨Nat.le_of_ble_eq_true rfl, Nat.le_of_ble_eq_true rfl⟩) hK hP (ci := 10) rfl rfl rfl hl.1 rfl (Nat.le_of_ble_eq_true rfl) dX10_pathsAt_16 ⟨Nat.zero_le _, Nat.zero_le _⟩ ?_
    refine lv_if_eq (tgt := 28) hx hb dX10_pathsAt_19 (by decide) (fun c_2 => ?_) (fun c_2 => ?_)
    · skip
      have c_2 := zb_eq0 c_2
      refine lv_iconst (v := 0) hx hb dX10_pathsAt_28 (by decide) ?_
      refine lv_ior hx hb dX10_pathsAt_29 ?_
      refine lv_istore_n (lv' := [(2, .int ((mPA N x i) ||| 0)), (0, .ref (am 0)), (1, .int x), (3, .int (nI i))]) hx hb dX10_pathsAt_30 rfl hl (by decide) rfl (fun ls hl => ?_)
      have hl : lv_has ls 4 [(2, .int (mPA N x (i + 1))), (0, .ref (am 0)), (1, .int x), (3, .int (nI i))] := by rw [show mPA N x (i + 1) = ((mPA N x i) ||| 0) from by rw [mPA]; simp [c_2]]; exact hl
      refine lv_iinc (v := (nI (i + 1))) (lv' := [(3, .int (nI (i + 1))), (2, .int (mPA N x (i + 1))), (0, .ref (am 0)), (1, .int x)]) hx hb dX10_pathsAt_31 hl (k := 3) rfl (nI_add i 1) (by decide) rfl (fun ls hl => ?_)
      refine lv_goto (tgt := 4) hx hb dX10_pathsAt_34 (by decide) ?_
      exact ih_4 (i + 1) ls (show (i + 1) ≤ N_n N from hlt) (show N_n N - (i + 1) < N_n N - i from by omega) (show lv_has ls 4 [(0, .ref (am 0)), (1, .int x), (2, .int (mPA N x (i + 1))), (3, .int (nI (i + 1)))] from lv_sub hl [2, 3, 1, 0] rfl)
    · skip
      have c_2 := zb_ne0 c_2
      refine lv_iconst (v := 1) hx hb dX10_pathsAt_22 (by decide) ?_
      refine lv_iload_n hx hb dX10_pathsAt_23 rfl (lv_at hl 3 rfl) ?_
      refine lv_ishl hx hb dX10_pathsAt_24 ?_
      refine lv_goto (tgt := 29) hx hb dX10_pathsAt_25 (by decide) ?_
      refine lv_ior hx hb dX10_pathsAt_29 ?_
      refine lv_istore_n (lv' := [(2, .int ((mPA N x i) ||| (1 <<< ((nI i) &&& 31)))), (0, .ref (am 0)), (1, .int x), (3, .int (nI i))]) hx hb dX10_pathsAt_30 rfl hl (by decide) rfl (fun ls hl => ?_)
      have hl : lv_has ls 4 [(2, .int (mPA N x (i + 1))), (0, .ref (am 0)), (1, .int x), (3, .int (nI i))] := by rw [show mPA N x (i + 1) = ((mPA N x i) ||| (1 <<< ((nI i) &&& 31))) from by rw [mPA]; simp [c_2]]; exact hl
      refine lv_iinc (v := (nI (i + 1))) (lv' := [(3, .int (nI (i + 1))), (2, .int (mPA N x (i + 1))), (0, .ref (am 0)), (1, .int x)]) hx hb dX10_pathsAt_31 hl (k := 3) rfl (nI_add i 1) (by decide) rfl (fun ls hl => ?_)
      refine lv_goto (tgt := 4) hx hb dX10_pathsAt_34 (by decide) ?_
      exact ih_4 (i + 1) ls (show (i + 1) ≤ N_n N from hlt) (show N_n N - (i + 1) < N_n N - i from by omega) (show lv_has ls 4 [(0, .ref (am 0)), (1, .int x), (2, .int (mPA N x (i + 1))), (3, .int (nI (i + 1)))] from lv_sub hl [2, 3, 1, 0] rfl)

set_option maxHeartbeats 4000000 in
set_option maxRecDepth 100000 in
theorem c_X10_seenBy (l : Launch) (D : va_G) (cI cZ : ClassId) (am : Nat → Nat) (N : TN) (hN16 : N_n N ≤ 16) (S : TS) (hS24 : S_n S ≤ 24) (q : TQ) (o : TO) (ho8 : o.1 ≤ 8) (ro : TR) (hr10 : ro.1 ≤ 10) (t : TT) (ht6 : t.1 ≤ 6) (fo : TF) (hf5 : fo.1 ≤ 5) (k : TC) (hk8 : k.2.1 ≤ 8) (z : TZ) (x y : Int32) (hcm : mCm N y) : RO l D cI cZ yX10_seenBy wyX10_seenBy ({ frames := 0, cells := 0, slots := 0, locals := 0 } : Room) [.ref (am 0), .int x, .int y] (wM am cI cZ N S q o ro t fo k z) (mSe S q N x y (S_n S)) := by
  refine Met.ofW (cc := cX10_seenBy) (maxL := 6) (ret := (some .int)) (by decide) rfl ?_
  intro p e s m args below meth c s₁ B hml hv
  obtain ⟨rfl, hK, hP⟩ := hv
  have hx := B.exec
  have hb := B.bytes
  have hr := B.returns
  have hts0 := atoms_spec (ws := wyX10_seenBy) B.pre
  have hts : ∀ w ∈ big, w.before _ s = true := fun w h => hts0 w (List.mem_cons_of_mem _ h)
  have hown : s.vm.findClass RX10 = some m.cls := findClass_of_methodNamed B.named
  have hlocks := B.notSynchronized
  have hl := lv_entry ([.ref (am 0), .int x, .int y]) (n := 6) (Nat.le_of_ble_eq_true rfl)
  rw [lg_entry_eq]
  generalize (lg_sl ([.ref (am 0), .int x, .int y]) ++ List.replicate (6 - (lg_sl ([.ref (am 0), .int x, .int y])).length) Slot.unset).toArray = ls at hl ⊢
  have hl : lv_has ls 6 [(0, .ref (am 0)), (1, .int x), (2, .int y)] := hl
  refine lv_iconst (v := 0) hx hb dX10_seenBy_0 (by decide) ?_
  refine lv_istore_n (lv' := [(3, .int 0), (0, .ref (am 0)), (1, .int x), (2, .int y)]) hx hb dX10_seenBy_1 rfl hl (by decide) rfl (fun ls hl => ?_)
  refine lv_iconst (v := 0) hx hb dX10_seenBy_2 (by decide) ?_
  refine lv_istore (lv' := [(4, .int 0), (3, .int 0), (0, .ref (am 0)), (1, .int x), (2, .int y)]) hx hb dX10_seenBy_3 hl (by decide) rfl (fun ls hl => ?_)
  refine w_loop (α := Nat) (fun a9 => a9 ≤ S_n S) (fun a9 => S_n S - a9) (fun a9 => [(0, .ref (am 0)), (1, .int x), (2, .int y), (3, .int (mSe S q N x y a9)), (4, .int (nI a9))]) 5 6 ?_ 0 (Nat.zero_le _) (show lv_has ls 6 [(0, .ref (am 0)), (1, .int x), (2, .int y), (3, .int (mSe S q N x y 0)), (4, .int (nI 0))] from lv_sub hl [2, 3, 4, 1, 0] rfl)
  intro a9 ls hI hl ih_5
  obtain ⟨i, rfl⟩ : ∃ z, z = a9 := ⟨a9, rfl⟩
  have hI : i ≤ S_n S := hI
  have hl : lv_has ls 6 [(0, .ref (am 0)), (1, .int x), (2, .int y), (3, .int (mSe S q N x y i)), (4, .int (nI i))] := hl
  refine lv_iload hx hb dX10_seenBy_5 (lv_at hl 4 rfl) ?_
  refine lv_aload_n hx hb dX10_seenBy_7 rfl (lv_at hl 0 rfl) ?_
  refine va_get (D := D) (ci := 10) (v := .int (nI (S_n S))) (C := RX10) (T := TX10) (N := 41) hx hb hts hin10 hown hK.1 hP 0 rfl rfl 6 (by decide) (hts _ fl_X10_115) (fun _ h9 => h9) rfl dX10_seenBy_8 ?_
  refine lv_icmp_ge (tgt := 145) hx hb dX10_seenBy_11 (by decide) (fun c_1 => ?_) (fun c_1 => ?_)
  · skip
    have hge : S_n S ≤ i := zge (by have := hI; have := hS24; omega) (by have := hS24; omega) c_1
    refine lv_iload_n hx hb dX10_seenBy_145 rfl (lv_at hl 3 rfl) ?_
    exact ro_iret hx hb hr hlocks (by rw [show S_n S = i by omega]) dX10_seenBy_146
  · skip
    have hlt : i < S_n S := zlt (by have := hI; have := hS24; omega) (by have := hS24; omega) c_1
    refine w_join (α := Int32) (fun a9 => a9 = zb (mSb S q N x y i = true)) (fun a9 => [(0, .ref (am 0)), (1, .int x), (2, .int y), (3, .int (mSe S q N x y i)), (4, .int (nI i)), (5, .int a9)]) (fun a9 => []) 123 6 (fun hJ_123 => ?_) ?_
    · skip
      refine lv_aload_n hx hb dX10_seenBy_14 rfl (lv_at hl 0 rfl) ?_
      refine va_get (D := D) (ci := 10) (v := .ref (am 4)) (C := RX10) (T := TX10) (N := 41) hx hb hts hin10 hown hK.1 hP 0 rfl rfl 7 (by decide) (hts _ fl_X10_19) (fun _ h9 => h9) rfl dX10_seenBy_15 ?_
      refine lv_iload hx hb dX10_seenBy_18 (lv_at hl 4 rfl) ?_
      refine z_iald hx hb hK.1 hP 4 0 rfl rfl i rfl (show i < 24 by omega) (by decide) dX10_seenBy_20 ?_
      refine lv_iload_n hx hb dX10_seenBy_21 rfl (lv_at hl 1 rfl) ?_
      refine lv_icmp_ne (tgt := 39) hx hb dX10_seenBy_22 (by decide) (fun c_2 => ?_) (fun c_2 => ?_)
      · skip
        refine lv_iconst (v := 0) hx hb dX10_seenBy_39 (by decide) ?_
        refine lv_istore (lv' := [(5, .int 0), (0, .ref (am 0)), (1, .int x), (2, .int y), (3, .int (mSe S q N x y i)), (4, .int (nI i))]) hx hb dX10_seenBy_40 hl (by decide) rfl (fun ls hl => ?_)
        refine lv_iload_n hx hb dX10_seenBy_42 rfl (lv_at hl 3 rfl) ?_
        refine lv_iconst (v := (-1)) hx hb dX10_seenBy_43 (by decide) ?_
        refine lv_icmp_ne (tgt := 72) hx hb dX10_seenBy_44 (by decide) (fun c_3 => ?_) (fun c_3 => ?_)
        · skip
          obtain ⟨j, hj, ej⟩ : ∃ j : Nat, j < N_n N ∧ y = nI j := hcm.resolve_left c_3
          refine lv_iload hx hb dX10_seenBy_72 (lv_at hl 0 rfl) ?_
          refine lv_if_eq (tgt := 120) hx hb dX10_seenBy_74 (by decide) (fun _ => ?_) (fun c_4 => absurd c_4 (by decide))
          refine lv_iconst (v := 0) hx hb dX10_seenBy_120 (by decide) ?_
          refine lv_istore (lv' := [(5, .int 0), (0, .ref (am 0)), (1, .int x), (2, .int y), (3, .int (mSe S q N x y i)), (4, .int (nI i))]) hx hb dX10_seenBy_121 hl (by decide) rfl (fun ls hl => ?_)
          exact hJ_123 0 ls (show 0 = zb (mSb S q N x y i = true) from by unfold mSb; rw [show y.toNatClampNeg = j from by rw [ej, nI_cl (by omega)]]; simp only [decide_eq_true_eq]; exact (zb_f (by simp [c_2, c_3, ← Int32.not_le])).symm) (show lv_has ls 6 [(0, .ref (am 0)), (1, .int x), (2, .int y), (3, .int (mSe S q N x y i)), (4, .int (nI i)), (5, .int 0)] from lv_sub hl [1, 2, 3, 4, 5, 0] rfl)
        · skip
          refine lv_iload hx hb dX10_seenBy_47 (lv_at hl 0 rfl) ?_
          refine lv_if_eq (tgt := 66) hx hb dX10_seenBy_49 (by decide) (fun _ => ?_) (fun c_5 => absurd c_5 (by decide))
          refine lv_iconst (v := 0) hx hb dX10_seenBy_66 (by decide) ?_
          refine lv_istore (lv' := [(5, .int 0), (0, .ref (am 0)), (1, .int x), (2, .int y), (3, .int (mSe S q N x y i)), (4, .int (nI i))]) hx hb dX10_seenBy_67 hl (by decide) rfl (fun ls hl => ?_)
          refine lv_goto (tgt := 123) hx hb dX10_seenBy_69 (by decide) ?_
          exact hJ_123 0 ls (show 0 = zb (mSb S q N x y i = true) from by unfold mSb; simp only [decide_eq_true_eq]; exact (zb_f (by simp [c_2, c_3, ← Int32.not_le])).symm) (show lv_has ls 6 [(0, .ref (am 0)), (1, .int x), (2, .int y), (3, .int (mSe S q N x y i)), (4, .int (nI i)), (5, .int 0)] from lv_sub hl [1, 2, 3, 4, 5, 0] rfl)
      · skip
        refine lv_aload_n hx hb dX10_seenBy_25 rfl (lv_at hl 0 rfl) ?_
        refine va_get (D := D) (ci := 10) (v := .ref (am 7)) (C := RX10) (T := TX10) (N := 41) hx hb hts hin10 hown hK.1 hP 0 rfl rfl 10 (by decide) (hts _ fl_X10_28) (fun _ h9 => h9) rfl dX10_seenBy_26 ?_
        refine lv_iload hx hb dX10_seenBy_29 (lv_at hl 4 rfl) ?_
        refine z_iald hx hb hK.1 hP 7 0 rfl rfl i rfl (show i < 24 by omega) (by decide) dX10_seenBy_31 ?_
        refine lv_if_le (tgt := 39) hx hb dX10_seenBy_32 (by decide) (fun c_6 => ?_) (fun c_6 => ?_)
        · skip
          refine lv_iconst (v := 0) hx hb dX10_seenBy_39 (by decide) ?_
          refine lv_istore (lv' := [(5, .int 0), (0, .ref (am 0)), (1, .int x), (2, .int y), (3, .int (mSe S q N x y i)), (4, .int (nI i))]) hx hb dX10_seenBy_40 hl (by decide) rfl (fun ls hl => ?_)
          refine lv_iload_n hx hb dX10_seenBy_42 rfl (lv_at hl 3 rfl) ?_
          refine lv_iconst (v := (-1)) hx hb dX10_seenBy_43 (by decide) ?_
          refine lv_icmp_ne (tgt := 72) hx hb dX10_seenBy_44 (by decide) (fun c_7 => ?_) (fun c_7 => ?_)
          · skip
            obtain ⟨j, hj, ej⟩ : ∃ j : Nat, j < N_n N ∧ y = nI j := hcm.resolve_left c_7
            refine lv_iload hx hb dX10_seenBy_72 (lv_at hl 0 rfl) ?_
            refine lv_if_eq (tgt := 120) hx hb dX10_seenBy_74 (by decide) (fun _ => ?_) (fun c_8 => absurd c_8 (by decide))
            refine lv_iconst (v := 0) hx hb dX10_seenBy_120 (by decide) ?_
            refine lv_istore (lv' := [(5, .int 0), (0, .ref (am 0)), (1, .int x), (2, .int y), (3, .int (mSe S q N x y i)), (4, .int (nI i))]) hx hb dX10_seenBy_121 hl (by decide) rfl (fun ls hl => ?_)
            exact hJ_123 0 ls (show 0 = zb (mSb S q N x y i = true) from by unfold mSb; rw [show y.toNatClampNeg = j from by rw [ej, nI_cl (by omega)]]; simp only [decide_eq_true_eq]; exact (zb_f (by simp [c_2, c_6, c_7, ← Int32.not_le])).symm) (show lv_has ls 6 [(0, .ref (am 0)), (1, .int x), (2, .int y), (3, .int (mSe S q N x y i)), (4, .int (nI i)), (5, .int 0)] from lv_sub hl [1, 2, 3, 4, 5, 0] rfl)
          · skip
            refine lv_iload hx hb dX10_seenBy_47 (lv_at hl 0 rfl) ?_
            refine lv_if_eq (tgt := 66) hx hb dX10_seenBy_49 (by decide) (fun _ => ?_) (fun c_9 => absurd c_9 (by decide))
            refine lv_iconst (v := 0) hx hb dX10_seenBy_66 (by decide) ?_
            refine lv_istore (lv' := [(5, .int 0), (0, .ref (am 0)), (1, .int x), (2, .int y), (3, .int (mSe S q N x y i)), (4, .int (nI i))]) hx hb dX10_seenBy_67 hl (by decide) rfl (fun ls hl => ?_)
            refine lv_goto (tgt := 123) hx hb dX10_seenBy_69 (by decide) ?_
            exact hJ_123 0 ls (show 0 = zb (mSb S q N x y i = true) from by unfold mSb; simp only [decide_eq_true_eq]; exact (zb_f (by simp [c_2, c_6, c_7, ← Int32.not_le])).symm) (show lv_has ls 6 [(0, .ref (am 0)), (1, .int x), (2, .int y), (3, .int (mSe S q N x y i)), (4, .int (nI i)), (5, .int 0)] from lv_sub hl [1, 2, 3, 4, 5, 0] rfl)
        · skip
          refine lv_iconst (v := 1) hx hb dX10_seenBy_35 (by decide) ?_
          refine lv_goto (tgt := 40) hx hb dX10_seenBy_36 (by decide) ?_
          refine lv_istore (lv' := [(5, .int 1), (0, .ref (am 0)), (1, .int x), (2, .int y), (3, .int (mSe S q N x y i)), (4, .int (nI i))]) hx hb dX10_seenBy_40 hl (by decide) rfl (fun ls hl => ?_)
          refine lv_iload_n hx hb dX10_seenBy_42 rfl (lv_at hl 3 rfl) ?_
          refine lv_iconst (v := (-1)) hx hb dX10_seenBy_43 (by decide) ?_
          refine lv_icmp_ne (tgt := 72) hx hb dX10_seenBy_44 (by decide) (fun c_10 => ?_) (fun c_10 => ?_)
          · skip
            obtain ⟨j, hj, ej⟩ : ∃ j : Nat, j < N_n N ∧ y = nI j := hcm.resolve_left c_10
            refine lv_iload hx hb dX10_seenBy_72 (lv_at hl 0 rfl) ?_
            refine lv_if_eq (tgt := 120) hx hb dX10_seenBy_74 (by decide) (fun c_11 => absurd c_11 (by decide)) (fun _ => ?_)
            refine lv_aload_n hx hb dX10_seenBy_77 rfl (lv_at hl 1 rfl) ?_
            refine va_get (D := D) (ci := 10) (v := .ref (am 9)) (C := RX10) (T := TX10) (N := 41) hx hb hts hin10 hown hK.1 hP 0 rfl rfl 12 (by decide) (hts _ fl_X10_34) (fun _ h9 => h9) rfl dX10_seenBy_78 ?_
            refine lv_iload hx hb dX10_seenBy_81 (lv_at hl 5 rfl) ?_
            refine z_iald hx hb hK.1 hP 9 0 rfl rfl i rfl (show i < 24 by omega) (by decide) dX10_seenBy_83 ?_
            refine lv_iload_n hx hb dX10_seenBy_84 rfl (lv_at hl 3 rfl) ?_
            refine lv_ishr hx hb dX10_seenBy_85 ?_
            refine lv_iconst (v := 1) hx hb dX10_seenBy_86 (by decide) ?_
            refine lv_iand hx hb dX10_seenBy_87 ?_
            refine lv_iconst (v := 1) hx hb dX10_seenBy_88 (by decide) ?_
            refine lv_icmp_ne (tgt := 120) hx hb dX10_seenBy_89 (by decide) (fun c_12 => ?_) (fun c_12 => ?_)
            · skip
              refine lv_iconst (v := 0) hx hb dX10_seenBy_120 (by decide) ?_
              refine lv_istore (lv' := [(5, .int 0), (0, .ref (am 0)), (1, .int x), (2, .int y), (3, .int (mSe S q N x y i)), (4, .int (nI i))]) hx hb dX10_seenBy_121 hl (by decide) rfl (fun ls hl => ?_)
              exact hJ_123 0 ls (show 0 = zb (mSb S q N x y i = true) from by unfold mSb; rw [show y.toNatClampNeg = j from by rw [ej, nI_cl (by omega)]]; simp only [decide_eq_true_eq]; exact (zb_f (by simp [c_2, c_6, c_10, c_12, ← Int32.not_le])).symm) (show lv_has ls 6 [(0, .ref (am 0)), (1, .int x), (2, .int y), (3, .int (mSe S q N x y i)), (4, .int (nI i)), (5, .int 0)] from lv_sub hl [1, 2, 3, 4, 5, 0] rfl)
            · skip
              refine lv_aload_n hx hb dX10_seenBy_92 rfl (lv_at hl 1 rfl) ?_
              refine va_get (D := D) (ci := 10) (v := .ref (am 5)) (C := RX10) (T := TX10) (N := 41) hx hb hts hin10 hown hK.1 hP 0 rfl rfl 8 (by decide) (hts _ fl_X10_22) (fun _ h9 => h9) rfl dX10_seenBy_93 ?_
              refine lv_iload hx hb dX10_seenBy_96 (lv_at hl 5 rfl) ?_
              refine z_iald hx hb hK.1 hP 5 0 rfl rfl i rfl (show i < 24 by omega) (by decide) dX10_seenBy_98 ?_
              refine lv_iconst (v := 1) hx hb dX10_seenBy_99 (by decide) ?_
              refine lv_icmp_gt (tgt := 116) hx hb dX10_seenBy_100 (by decide) (fun c_13 => ?_) (fun c_13 => ?_)
              · skip
                refine lv_iconst (v := 1) hx hb dX10_seenBy_116 (by decide) ?_
                refine lv_goto (tgt := 121) hx hb dX10_seenBy_117 (by decide) ?_
                refine lv_istore (lv' := [(5, .int 1), (0, .ref (am 0)), (1, .int x), (2, .int y), (3, .int (mSe S q N x y i)), (4, .int (nI i))]) hx hb dX10_seenBy_121 hl (by decide) rfl (fun ls hl => ?_)
                exact hJ_123 1 ls (show 1 = zb (mSb S q N x y i = true) from by unfold mSb; rw [show y.toNatClampNeg = j from by rw [ej, nI_cl (by omega)]]; simp only [decide_eq_true_eq]; exact (zb_t (by simp [c_2, c_6, c_10, c_12, Int32.not_le.mpr c_13, ← Int32.not_le])).symm) (show lv_has ls 6 [(0, .ref (am 0)), (1, .int x), (2, .int y), (3, .int (mSe S q N x y i)), (4, .int (nI i)), (5, .int 1)] from lv_sub hl [1, 2, 3, 4, 5, 0] rfl)
              · skip
                refine lv_aload_n hx hb dX10_seenBy_103 rfl (lv_at hl 1 rfl) ?_
                refine va_get (D := D) (ci := 10) (v := .ref (am 3)) (C := RX10) (T := TX10) (N := 41) hx hb hts hin10 hown hK.1 hP 0 rfl rfl 3 (by decide) (hts _ fl_X10_16) (fun _ h9 => h9) rfl dX10_seenBy_104 ?_
                refine lv_iload_n hx hb dX10_seenBy_107 rfl (lv_at hl 3 rfl) ?_
                refine z_iald hx hb hK.1 hP 3 0 rfl rfl j ej (show j < 16 by omega) (by decide) dX10_seenBy_108 ?_
                refine lv_aload_n hx hb dX10_seenBy_109 rfl (lv_at hl 1 rfl) ?_
                refine va_get (D := D) (ci := 10) (v := .int q.2.2) (C := RX10) (T := TX10) (N := 41) hx hb hts hin10 hown hK.1 hP 0 rfl rfl 15 (by decide) (hts _ fl_X10_122) (fun _ h9 => h9) rfl dX10_seenBy_110 ?_
                refine lv_icmp_lt (tgt := 120) hx hb dX10_seenBy_113 (by decide) (fun c_14 => ?_) (fun c_14 => ?_)
                · skip
                  refine lv_iconst (v := 0) hx hb dX10_seenBy_120 (by decide) ?_
                  refine lv_istore (lv' := [(5, .int 0), (0, .ref (am 0)), (1, .int x), (2, .int y), (3, .int (mSe S q N x y i)), (4, .int (nI i))]) hx hb dX10_seenBy_121 hl (by decide) rfl (fun ls hl => ?_)
                  exact hJ_123 0 ls (show 0 = zb (mSb S q N x y i = true) from by unfold mSb; rw [show y.toNatClampNeg = j from by rw [ej, nI_cl (by omega)]]; simp only [decide_eq_true_eq]; exact (zb_f (by simp [c_2, c_6, c_10, c_12, Int32.not_lt.mp c_13, Int32.not_le.mpr c_14, ← Int32.not_le])).symm) (show lv_has ls 6 [(0, .ref (am 0)), (1, .int x), (2, .int y), (3, .int (mSe S q N x y i)), (4, .int (nI i)), (5, .int 0)] from lv_sub hl [1, 2, 3, 4, 5, 0] rfl)
                · skip
                  refine lv_iconst (v := 1) hx hb dX10_seenBy_116 (by decide) ?_
                  refine lv_goto (tgt := 121) hx hb dX10_seenBy_117 (by decide) ?_
                  refine lv_istore (lv' := [(5, .int 1), (0, .ref (am 0)), (1, .int x), (2, .int y), (3, .int (mSe S q N x y i)), (4, .int (nI i))]) hx hb dX10_seenBy_121 hl (by decide) rfl (fun ls hl => ?_)
                  exact hJ_123 1 ls (show 1 = zb (mSb S q N x y i = true) from by unfold mSb; rw [show y.toNatClampNeg = j from by rw [ej, nI_cl (by omega)]]; simp only [decide_eq_true_eq]; exact (zb_t (by simp [c_2, c_6, c_10, c_12, Int32.not_lt.mp c_13, Int32.not_lt.mp c_14, ← Int32.not_le])).symm) (show lv_has ls 6 [(0, .ref (am 0)), (1, .int x), (2, .int y), (3, .int (mSe S q N x y i)), (4, .int (nI i)), (5, .int 1)] from lv_sub hl [1, 2, 3, 4, 5, 0] rfl)
          · skip
            refine lv_iload hx hb dX10_seenBy_47 (lv_at hl 0 rfl) ?_
            refine lv_if_eq (tgt := 66) hx hb dX10_seenBy_49 (by decide) (fun c_15 => absurd c_15 (by decide)) (fun _ => ?_)
            refine lv_aload_n hx hb dX10_seenBy_52 rfl (lv_at hl 1 rfl) ?_
            refine va_get (D := D) (ci := 10) (v := .ref (am 10)) (C := RX10) (T := TX10) (N := 41) hx hb hts hin10 hown hK.1 hP 0 rfl rfl 13 (by decide) (hts _ fl_X10_37) (fun _ h9 => h9) rfl dX10_seenBy_53 ?_
            refine lv_iload hx hb dX10_seenBy_56 (lv_at hl 5 rfl) ?_
            refine z_zald hx hb hK.1 hP 10 1 rfl rfl i rfl (show i < 24 by omega) (by decide) dX10_seenBy_58 ?_
            refine lv_if_eq (tgt := 66) hx hb dX10_seenBy_59 (by decide) (fun c_16 => ?_) (fun c_16 => ?_)
            · skip
              refine lv_iconst (v := 0) hx hb dX10_seenBy_66 (by decide) ?_
              refine lv_istore (lv' := [(5, .int 0), (0, .ref (am 0)), (1, .int x), (2, .int y), (3, .int (mSe S q N x y i)), (4, .int (nI i))]) hx hb dX10_seenBy_67 hl (by decide) rfl (fun ls hl => ?_)
              refine lv_goto (tgt := 123) hx hb dX10_seenBy_69 (by decide) ?_
              exact hJ_123 0 ls (show 0 = zb (mSb S q N x y i = true) from by unfold mSb; simp only [decide_eq_true_eq]; exact (zb_f (by simp [c_2, c_6, c_10, c_16, ← Int32.not_le])).symm) (show lv_has ls 6 [(0, .ref (am 0)), (1, .int x), (2, .int y), (3, .int (mSe S q N x y i)), (4, .int (nI i)), (5, .int 0)] from lv_sub hl [1, 2, 3, 4, 5, 0] rfl)
            · skip
              refine lv_iconst (v := 1) hx hb dX10_seenBy_62 (by decide) ?_
              refine lv_goto (tgt := 67) hx hb dX10_seenBy_63 (by decide) ?_
              refine lv_istore (lv' := [(5, .int 1), (0, .ref (am 0)), (1, .int x), (2, .int y), (3, .int (mSe S q N x y i)), (4, .int (nI i))]) hx hb dX10_seenBy_67 hl (by decide) rfl (fun ls hl => ?_)
              refine lv_goto (tgt := 123) hx hb dX10_seenBy_69 (by decide) ?_
              exact hJ_123 1 ls (show 1 = zb (mSb S q N x y i = true) from by unfold mSb; simp only [decide_eq_true_eq]; exact (zb_t (by simp [c_2, c_6, c_10, c_16, ← Int32.not_le])).symm) (show lv_has ls 6 [(0, .ref (am 0)), (1, .int x), (2, .int y), (3, .int (mSe S q N x y i)), (4, .int (nI i)), (5, .int 1)] from lv_sub hl [1, 2, 3, 4, 5, 0] rfl)
    · skip
      intro a9 ls hI hl
      obtain ⟨u, rfl⟩ : ∃ z, z = a9 := ⟨a9, rfl⟩
      have hI : u = zb (mSb S q N x y i = true) := hI
      subst hI
      have hl : lv_has ls 6 [(0, .ref (am 0)), (1, .int x), (2, .int y), (3, .int (mSe S q N x y i)), (4, .int (nI i)), (5, .int (zb (mSb S q N x y i = true)))] := hl
      refine lv_iload_n hx hb dX10_seenBy_123 rfl (lv_at hl 3 rfl) ?_
      refine lv_iload hx hb dX10_seenBy_124 (lv_at hl 5 rfl) ?_
      refine lv_if_eq (tgt := 136) hx hb dX10_seenBy_126 (by decide) (fun c_17 => ?_) (fun c_17 => ?_)
      · skip
        have c_17 := zb_eq0 c_17
        refine lv_iconst (v := 0) hx hb dX10_seenBy_136 (by decide) ?_
        refine lv_ior hx hb dX10_seenBy_137 ?_
        refine lv_istore_n (lv' := [(3, .int ((mSe S q N x y i) ||| 0)), (0, .ref (am 0)), (1, .int x), (2, .int y), (4, .int (nI i)), (5, .int (zb (mSb S q N x y i = true)))]) hx hb dX10_seenBy_138 rfl hl (by decide) rfl (fun ls hl => ?_)
        have hl : lv_has ls 6 [(3, .int (mSe S q N x y (i + 1))), (0, .ref (am 0)), (1, .int x), (2, .int y), (4, .int (nI i)), (5, .int (zb (mSb S q N x y i = true)))] := by rw [show mSe S q N x y (i + 1) = ((mSe S q N x y i) ||| 0) from by rw [mSe]; simp [c_17]]; exact hl
        refine lv_iinc (v := (nI (i + 1))) (lv' := [(4, .int (nI (i + 1))), (3, .int (mSe S q N x y (i + 1))), (0, .ref (am 0)), (1, .int x), (2, .int y), (5, .int (zb (mSb S q N x y i = true)))]) hx hb dX10_seenBy_139 hl (k := 4) rfl (nI_add i 1) (by decide) rfl (fun ls hl => ?_)
        refine lv_goto (tgt := 5) hx hb dX10_seenBy_142 (by decide) ?_
        exact ih_5 (i + 1) ls (show (i + 1) ≤ S_n S from hlt) (show S_n S - (i + 1) < S_n S - i from by omega) (show lv_has ls 6 [(0, .ref (am 0)), (1, .int x), (2, .int y), (3, .int (mSe S q N x y (i + 1))), (4, .int (nI (i + 1)))] from lv_sub hl [2, 3, 4, 1, 0] rfl)
      · skip
        have c_17 := zb_ne0 c_17
        refine lv_iconst (v := 1) hx hb dX10_seenBy_129 (by decide) ?_
        refine lv_iload hx hb dX10_seenBy_130 (lv_at hl 4 rfl) ?_
        refine lv_ishl hx hb dX10_seenBy_132 ?_
        refine lv_goto (tgt := 137) hx hb dX10_seenBy_133 (by decide) ?_
        refine lv_ior hx hb dX10_seenBy_137 ?_
        refine lv_istore_n (lv' := [(3, .int ((mSe S q N x y i) ||| (1 <<< ((nI i) &&& 31)))), (0, .ref (am 0)), (1, .int x), (2, .int y), (4, .int (nI i)), (5, .int (zb (mSb S q N x y i = true)))]) hx hb dX10_seenBy_138 rfl hl (by decide) rfl (fun ls hl => ?_)
        have hl : lv_has ls 6 [(3, .int (mSe S q N x y (i + 1))), (0, .ref (am 0)), (1, .int x), (2, .int y), (4, .int (nI i)), (5, .int (zb (mSb S q N x y i = true)))] := by rw [show mSe S q N x y (i + 1) = ((mSe S q N x y i) ||| (1 <<< ((nI i) &&& 31))) from by rw [mSe]; simp [c_17]]; exact hl
        refine lv_iinc (v := (nI (i + 1))) (lv' := [(4, .int (nI (i + 1))), (3, .int (mSe S q N x y (i + 1))), (0, .ref (am 0)), (1, .int x), (2, .int y), (5, .int (zb (mSb S q N x y i = true)))]) hx hb dX10_seenBy_139 hl (k := 4) rfl (nI_add i 1) (by decide) rfl (fun ls hl => ?_)
        refine lv_goto (tgt := 5) hx hb dX10_seenBy_142 (by decide) ?_
        exact ih_5 (i + 1) ls (show (i + 1) ≤ S_n S from hlt) (show S_n S - (i + 1) < S_n S - i from by omega) (show lv_has ls 6 [(0, .ref (am 0)), (1, .int x), (2, .int y), (3, .int (mSe S q N x y (i + 1))), (4, .int (nI (i + 1)))] from lv_sub hl [2, 3, 4, 1, 0] rfl)
