theorem mAt_cm2 {N : TN} {y p : Int32} (hN : N_n N ≤ 16) (h : mAt N y p = true) : mCm N y := by
  unfold mAt at h
  rw [decide_eq_true_eq] at h
  obtain ⟨j, hj, ej⟩ := ix_of (n := N_n N) h.1 (by omega)
  exact Or.inr ⟨j, hj, ej⟩
theorem nm1_neg {j : Nat} (hj : j < 2 ^ 31) (h : nI j + (-1) < 0) : j = 0 := by
  cases j with
  | zero => rfl
  | succ n => rw [pk_m1] at h; exact absurd h (nI_pos (by omega))
theorem nm1_pos {j : Nat} (h : ¬ nI j + (-1) < 0) : ∃ n, j = n + 1 := by
  cases j with
  | zero => exact absurd (by decide) h
  | succ n => exact ⟨n, rfl⟩
def mPth (i : Nat) : Int32 := if i % 17 = 16 then -1 else nI (i % 17)
def mWm (N : TN) (o : TO) (n : Nat) (f : Nat → Int32) (p y : Int32) : Nat → Int32
  | 0 => if n + 1 = o.1 then 1 else 0
  | i + 1 => if n + 1 = o.1 then 1 else mWm N o n f p y i + (if mMy N p y (nI i) = true then f (170 * (n + 1) + 17 * (mOE N i p).toNatClampNeg + i) else 0)
theorem mWm_1 {N : TN} {o : TO} {n : Nat} {f : Nat → Int32} {p y : Int32} (h : n + 1 = o.1) : ∀ i, mWm N o n f p y i = 1
  | 0 => by rw [mWm, if_pos h]
  | i + 1 => by rw [mWm, if_pos h]
def mWv (S : TS) (q : TQ) (N : TN) (o : TO) (n : Nat) (f : Nat → Int32) (i : Nat) : Int32 :=
  if (mPth i = -1 ∨ mAt N (mPth i) (nI (i / 17)) = true) ∧ mIn S q N o n (nI (i / 17)) (mPth i) = true then mWm N o n f (nI (i / 17)) (mPth i) (N_n N) else 0
def mWn (S : TS) (q : TQ) (N : TN) (o : TO) (n : Nat) (f : Nat → Int32) : Nat → Nat → Int32
  | 0 => f
  | i + 1 => upd (mWn S q N o n f i) (170 * n + i) (mWv S q N o n (mWn S q N o n f i) i)
def mWd (S : TS) (q : TQ) (N : TN) (o : TO) (f : Nat → Int32) : Nat → Nat → Int32
  | 0 => f
  | d + 1 => mWn S q N o (o.1 - 1 - d) (mWd S q N o f d) 170
def mZg (z : TZ) (f : Nat → Int32) : TZ := (z.1, z.2.1, z.2.2.1, z.2.2.2.1, z.2.2.2.2.1, f, z.2.2.2.2.2.2.1, z.2.2.2.2.2.2.2)
set_option maxHeartbeats 4000000 in
set_option maxRecDepth 100000 in
theorem c_X10_findWays (l : Launch) (D : va_G) (cI cZ : ClassId) (am : Nat → Nat) (N : TN) (hN16 : N_n N ≤ 16) (S : TS) (hS24 : S_n S ≤ 24) (q : TQ) (o : TO) (ho8 : o.1 ≤ 8) (ro : TR) (hr10 : ro.1 ≤ 10) (t : TT) (ht6 : t.1 ≤ 6) (fo : TF) (hf5 : fo.1 ≤ 5) (k : TC) (hk8 : k.2.1 ≤ 8) (z : TZ) (hNE : NE N) : MV l D cI cZ yX10_findWays wyX10_findWays ({ frames := 4, cells := 0, slots := 0, locals := 91 } : Room) [.ref (am 0)] (wM am cI cZ N S q o ro t fo k z) (fun _ => True) (fun (_ : Unit) => wM am cI cZ N S q o ro t fo k (mZg z (mWd S q N o z.2.2.2.2.2.1 o.1))) := by
  refine Met.ofW (cc := cX10_findWays) (maxL := 7) (ret := none) (by decide) rfl ?_
  intro p e s m args below meth c s₁ B hml hv
  obtain ⟨rfl, hK, hP, hD0⟩ := hv
  have hx := B.exec
  have hb := B.bytes
  have hr := B.returns
  have hts0 := atoms_spec (ws := wyX10_findWays) B.pre
  have hts : ∀ w ∈ big, w.before _ s = true := fun w h => hts0 w (List.mem_cons_of_mem _ h)
  have hown : s.vm.findClass RX10 = some m.cls := findClass_of_methodNamed B.named
  have hlocks := B.notSynchronized
  have hD := D_inW hD0
  have hS : va_S (inW (wM am cI cZ N S q o ro t fo k z)) s.heap s.heap [] := va_S.rf
  have hl := lv_entry ([.ref (am 0)]) (n := 7) (Nat.le_of_ble_eq_true rfl)
  rw [lg_entry_eq]
  generalize (lg_sl ([.ref (am 0)]) ++ List.replicate (7 - (lg_sl ([.ref (am 0)])).length) Slot.unset).toArray = ls at hl ⊢
  have hl : lv_has ls 7 [(0, .ref (am 0))] := hl
  refine lv_aload_n hx hb dX10_findWays_0 rfl (lv_at hl 0 rfl) ?_
  refine va_get (D := D) (ci := 10) (v := .int (nI o.1)) (C := RX10) (T := TX10) (N := 41) hx hb hts hin10 hown hK.1 hP 0 rfl rfl 23 (by decide) (hts _ fl_X10_150) (fun _ h9 => h9) rfl dX10_findWays_1 ?_
  refine lv_iconst (v := 1) hx hb dX10_findWays_4 (by decide) ?_
  refine lv_isub hx hb dX10_findWays_5 ?_
  rw [show nI o.1 - 1 = nI o.1 + (-1) from Int32.sub_eq_add_neg _ _]
  refine lv_istore_n (lv' := [(1, .int (nI o.1 + (-1))), (0, .ref (am 0))]) hx hb dX10_findWays_6 rfl hl (by decide) rfl (fun ls hl => ?_)
  refine w_loopH (α := Nat × Nat) (fun a9 => a9.2 + a9.1 = o.1) (fun a9 => a9.2) (fun a9 => wM am cI cZ N S q o ro t fo k (z.1, z.2.1, z.2.2.1, z.2.2.2.1, z.2.2.2.2.1, (mWd S q N o z.2.2.2.2.2.1 a9.1), z.2.2.2.2.2.2.1, z.2.2.2.2.2.2.2)) (fun a9 => [(0, .ref (am 0)), (1, .int (nI a9.2 + (-1)))]) 7 7 ?_ (0, o.1) (rfl) (show lv_has ls 7 [(0, .ref (am 0)), (1, .int (nI o.1 + (-1)))] from lv_sub hl [1, 0] rfl) hP hD hS
  intro a9 ls H locs hI hl hP hD hS ih_7
  obtain ⟨d, j⟩ := a9
  have hI : j + d = o.1 := hI
  have hl : lv_has ls 7 [(0, .ref (am 0)), (1, .int (nI j + (-1)))] := hl
  have hP : va_P D vwCl (wM am cI cZ N S q o ro t fo k (z.1, z.2.1, z.2.2.1, z.2.2.2.1, z.2.2.2.2.1, (mWd S q N o z.2.2.2.2.2.1 d), z.2.2.2.2.2.2.1, z.2.2.2.2.2.2.2)) H := hP
  have hD : va_D _ (wM am cI cZ N S q o ro t fo k (z.1, z.2.1, z.2.2.1, z.2.2.2.1, z.2.2.2.2.1, (mWd S q N o z.2.2.2.2.2.1 d), z.2.2.2.2.2.2.1, z.2.2.2.2.2.2.2)) := hD
  refine lv_iload_n hx hb dX10_findWays_7 rfl (lv_at hl 1 rfl) ?_
  refine lv_if_lt (tgt := 192) hx hb dX10_findWays_8 (by decide) (fun c_1 => ?_) (fun c_1 => ?_)
  · skip
    have hj0 := nm1_neg (by omega) c_1
    exact mu_vret hx hb hr hlocks (()) (trivial) (by show va_P D vwCl (wM am cI cZ N S q o ro t fo k (mZg z (mWd S q N o z.2.2.2.2.2.1 o.1))) _; rw [show o.1 = d by omega]; exact hP) hS dX10_findWays_192
  · skip
    obtain ⟨j2, hj2⟩ := nm1_pos c_1
    have hl : lv_has ls 7 [(0, .ref (am 0)), (1, .int (nI j2))] := by rw [← pk_m1 j2, ← hj2]; exact hl
    refine lv_iconst (v := 0) hx hb dX10_findWays_11 (by decide) ?_
    refine lv_istore_n (lv' := [(2, .int 0), (0, .ref (am 0)), (1, .int (nI j2))]) hx hb dX10_findWays_12 rfl hl (by decide) rfl (fun ls hl => ?_)
    refine w_loopH (α := Nat) (fun a9 => a9 ≤ 170) (fun a9 => 170 - a9) (fun a9 => wM am cI cZ N S q o ro t fo k (z.1, z.2.1, z.2.2.1, z.2.2.2.1, z.2.2.2.2.1, (mWn S q N o j2 (mWd S q N o z.2.2.2.2.2.1 d) a9), z.2.2.2.2.2.2.1, z.2.2.2.2.2.2.2)) (fun a9 => [(0, .ref (am 0)), (1, .int (nI j2)), (2, .int (nI a9))]) 13 7 ?_ 0 (Nat.zero_le _) (show lv_has ls 7 [(0, .ref (am 0)), (1, .int (nI j2)), (2, .int (nI 0))] from lv_sub hl [1, 2, 0] rfl) hP hD hS
    intro a9 ls H locs hI hl hP hD hS ih_13
    obtain ⟨i1, rfl⟩ : ∃ z, z = a9 := ⟨a9, rfl⟩
    have hI : i1 ≤ 170 := hI
    have hl : lv_has ls 7 [(0, .ref (am 0)), (1, .int (nI j2)), (2, .int (nI i1))] := hl
    have hP : va_P D vwCl (wM am cI cZ N S q o ro t fo k (z.1, z.2.1, z.2.2.1, z.2.2.2.1, z.2.2.2.2.1, (mWn S q N o j2 (mWd S q N o z.2.2.2.2.2.1 d) i1), z.2.2.2.2.2.2.1, z.2.2.2.2.2.2.2)) H := hP
    have hD : va_D _ (wM am cI cZ N S q o ro t fo k (z.1, z.2.1, z.2.2.1, z.2.2.2.1, z.2.2.2.2.1, (mWn S q N o j2 (mWd S q N o z.2.2.2.2.2.1 d) i1), z.2.2.2.2.2.2.1, z.2.2.2.2.2.2.2)) := hD
    have hI1 := hI
    refine lv_iload_n hx hb dX10_findWays_13 rfl (lv_at hl 2 rfl) ?_
    refine lv_sipush (v := 170) hx hb dX10_findWays_14 (by decide) ?_
    refine lv_icmp_ge (tgt := 186) hx hb dX10_findWays_17 (by decide) (fun c_2 => ?_) (fun c_2 => ?_)
    · skip
      have hge : 170 ≤ i1 := zge (by have := hI1; omega) (by decide) c_2
      have hPd : mWn S q N o j2 (mWd S q N o z.2.2.2.2.2.1 d) i1 = mWd S q N o z.2.2.2.2.2.1 (d + 1) := by rw [mWd, show o.1 - 1 - d = j2 by omega, show (170 : Nat) = i1 by omega]
      rw [hPd] at hP hD
      refine lv_iinc (v := ((nI j2) + (-1))) (lv' := [(1, .int ((nI j2) + (-1))), (0, .ref (am 0)), (2, .int (nI i1))]) hx hb dX10_findWays_186 hl (k := 1) rfl rfl (by decide) rfl (fun ls hl => ?_)
      refine lv_goto (tgt := 7) hx hb dX10_findWays_189 (by decide) ?_
      exact ih_7 ((d + 1), j2) ls H locs (show j2 + (d + 1) = o.1 from by omega) (show j2 < j from by omega) (show lv_has ls 7 [(0, .ref (am 0)), (1, .int (nI j2 + (-1)))] from lv_sub hl [1, 0] rfl) hP hD hS
    · skip
      have hlt : i1 < 170 := zlt (by have := hI1; omega) (by decide) c_2
      have hlt1 := hlt
      refine lv_iload_n hx hb dX10_findWays_20 rfl (lv_at hl 2 rfl) ?_
      refine lv_bipush (v := 17) hx hb dX10_findWays_21 (by decide) ?_
      refine lv_idiv hx hb dX10_findWays_23 (by decide) ?_
      rw [show nI i1 / (17 : Int32) = nI (i1 / 17) from pk_div (by omega) (by decide) (by decide)]
      refine lv_istore_n (lv' := [(3, .int (nI (i1 / 17))), (0, .ref (am 0)), (1, .int (nI j2)), (2, .int (nI i1))]) hx hb dX10_findWays_24 rfl hl (by decide) rfl (fun ls hl => ?_)
      refine w_join (α := Int32) (fun a9 => a9 = (mPth i1)) (fun a9 => [(0, .ref (am 0)), (1, .int (nI j2)), (2, .int (nI i1)), (3, .int (nI (i1 / 17)))]) (fun a9 => [.int a9]) 42 7 (fun hJ_42 => ?_) ?_
      · skip
        refine lv_iload_n hx hb dX10_findWays_25 rfl (lv_at hl 3 rfl) ?_
        refine lv_bipush (v := 17) hx hb dX10_findWays_26 (by decide) ?_
        refine lv_irem hx hb dX10_findWays_28 (by decide) ?_
        rw [show nI i1 - nI i1 / (17 : Int32) * (17 : Int32) = nI (i1 % 17) from pk_rem (by omega) (by decide) (by decide)]
        refine lv_bipush (v := 16) hx hb dX10_findWays_29 (by decide) ?_
        refine lv_icmp_ne (tgt := 38) hx hb dX10_findWays_31 (by decide) (fun c_3 => ?_) (fun c_3 => ?_)
        · skip
          have h16 : ¬ i1 % 17 = 16 := fun q9 => c_3 (by rw [q9]; rfl)
          refine lv_iload_n hx hb dX10_findWays_38 rfl (lv_at hl 3 rfl) ?_
          refine lv_bipush (v := 17) hx hb dX10_findWays_39 (by decide) ?_
          refine lv_irem hx hb dX10_findWays_41 (by decide) ?_
          rw [show nI i1 - nI i1 / (17 : Int32) * (17 : Int32) = nI (i1 % 17) from pk_rem (by omega) (by decide) (by decide)]
          exact hJ_42 (nI (i1 % 17)) ls (show (nI (i1 % 17)) = (mPth i1) from by unfold mPth; first | exact (if_pos h16).symm | exact (if_neg h16).symm) (show lv_has ls 7 [(0, .ref (am 0)), (1, .int (nI j2)), (2, .int (nI i1)), (3, .int (nI (i1 / 17)))] from lv_sub hl [1, 2, 3, 0] rfl)
        · skip
          have h16 : i1 % 17 = 16 := by have h9 : nI (i1 % 17) = nI 16 := c_3; rw [nI_eq (by omega) (by omega)] at h9; exact h9
          refine lv_iconst (v := (-1)) hx hb dX10_findWays_34 (by decide) ?_
          refine lv_goto (tgt := 42) hx hb dX10_findWays_35 (by decide) ?_
          exact hJ_42 (-1) ls (show (-1) = (mPth i1) from by unfold mPth; first | exact (if_pos h16).symm | exact (if_neg h16).symm) (show lv_has ls 7 [(0, .ref (am 0)), (1, .int (nI j2)), (2, .int (nI i1)), (3, .int (nI (i1 / 17)))] from lv_sub hl [1, 2, 3, 0] rfl)
      · skip
        intro a9 ls hI hl
        obtain ⟨u9, rfl⟩ : ∃ z, z = a9 := ⟨a9, rfl⟩
        have hI : u9 = (mPth i1) := hI
        subst hI
        have hl : lv_has ls 7 [(0, .ref (am 0)), (1, .int (nI j2)), (2, .int (nI i1)), (3, .int (nI (i1 / 17)))] := hl
        refine lv_istore (lv' := [(4, .int (mPth i1)), (0, .ref (am 0)), (1, .int (nI j2)), (2, .int (nI i1)), (3, .int (nI (i1 / 17)))]) hx hb dX10_findWays_42 hl (by decide) rfl (fun ls hl => ?_)
        refine lv_iconst (v := 0) hx hb dX10_findWays_44 (by decide) ?_
        refine lv_istore (lv' := [(5, .int 0), (4, .int (mPth i1)), (0, .ref (am 0)), (1, .int (nI j2)), (2, .int (nI i1)), (3, .int (nI (i1 / 17)))]) hx hb dX10_findWays_45 hl (by decide) rfl (fun ls hl => ?_)
        refine lv_iload hx hb dX10_findWays_47 (lv_at hl 1 rfl) ?_
        refine lv_iconst (v := (-1)) hx hb dX10_findWays_49 (by decide) ?_
        refine lv_icmp_eq (tgt := 63) hx hb dX10_findWays_50 (by decide) (fun c_4 => ?_) (fun c_4 => ?_)
        · skip
          refine lv_aload_n hx hb dX10_findWays_63 rfl (lv_at hl 2 rfl) ?_
          refine lv_iload_n hx hb dX10_findWays_64 rfl (lv_at hl 3 rfl) ?_
          refine lv_iload_n hx hb dX10_findWays_65 rfl (lv_at hl 5 rfl) ?_
          refine lv_iload hx hb dX10_findWays_66 (lv_at hl 1 rfl) ?_
          refine ro_V (As := [.int (nI j2), .int (nI (i1 / 17)), .int (mPth i1)]) (rest := []) ⟨hx, hb, hml, hown, hts⟩ (c_X10_isNoted l D cI cZ am N hN16 S hS24 q o ho8 ro hr10 t ht6 fo hf5 k hk8 (z.1, z.2.1, z.2.2.1, z.2.2.2.1, z.2.2.2.2.1, (mWn S q N o j2 (mWd S q N o z.2.2.2.2.2.1 d) i1), z.2.2.2.2.2.2.1, z.2.2.2.2.2.2.2) j2 (show j2 < 8 by omega) (nI (i1 / 17)) (mPth i1) (Or.inl c_4)) (cw_X10_153 hts rfl rfl ⟨Nat.le_of_ble_eq_true rfl, Nat.le_of_ble_eq_true rfl⟩) hK hP (ci := 10) rfl rfl rfl hl.1 rfl (Nat.le_of_ble_eq_true rfl) dX10_findWays_68 ⟨Nat.zero_le _, Nat.zero_le _⟩ ?_
          refine lv_if_eq (tgt := 166) hx hb dX10_findWays_71 (by decide) (fun c_5 => ?_) (fun c_5 => ?_)
          · skip
            have c_5 := zb_eq0 c_5
            have hl : lv_has ls 7 [(5, .int (mWv S q N o j2 (mWn S q N o j2 (mWd S q N o z.2.2.2.2.2.1 d) i1) i1)), (4, .int (mPth i1)), (0, .ref (am 0)), (1, .int (nI j2)), (2, .int (nI i1)), (3, .int (nI (i1 / 17)))] := by rw [show (mWv S q N o j2 (mWn S q N o j2 (mWd S q N o z.2.2.2.2.2.1 d) i1) i1) = 0 from by unfold mWv; rw [if_neg (fun z9 => c_5 z9.2)]]; exact hl
            refine lv_aload_n hx hb dX10_findWays_166 rfl (lv_at hl 2 rfl) ?_
            refine va_get (D := D) (ci := 10) (v := .ref (am 15)) (C := RX10) (T := TX10) (N := 41) hx hb hts hin10 hown hK.1 hP 0 rfl rfl 25 (by decide) (hts _ fl_X10_57) (fun _ h9 => h9) rfl dX10_findWays_167 ?_
            refine lv_sipush (v := 170) hx hb dX10_findWays_170 (by decide) ?_
            refine lv_iload_n hx hb dX10_findWays_173 rfl (lv_at hl 3 rfl) ?_
            refine lv_imul hx hb dX10_findWays_174 ?_
            rw [show (170 : Int32) * nI j2 = nI (170 * j2) from pk_mul (170) (j2)]
            refine lv_iload_n hx hb dX10_findWays_175 rfl (lv_at hl 4 rfl) ?_
            refine lv_iadd hx hb dX10_findWays_176 ?_
            rw [show nI (170 * j2) + nI i1 = nI (170 * j2 + i1) from nI_add _ _]
            refine lv_iload hx hb dX10_findWays_177 (lv_at hl 0 rfl) ?_
            refine z_iast hx hb hK.1 hP hD hS 15 0 rfl rfl (170 * j2 + i1) rfl (show 170 * j2 + i1 < 1360 by omega) (by decide)  dX10_findWays_179 (fun H locs hP hD hS => ?_)
            have hP : va_P D vwCl (wM am cI cZ N S q o ro t fo k (z.1, z.2.1, z.2.2.1, z.2.2.2.1, z.2.2.2.2.1, (upd (mWn S q N o j2 (mWd S q N o z.2.2.2.2.2.1 d) i1) (170 * j2 + i1) (mWv S q N o j2 (mWn S q N o j2 (mWd S q N o z.2.2.2.2.2.1 d) i1) i1)), z.2.2.2.2.2.2.1, z.2.2.2.2.2.2.2)) H := hP
            have hD : va_D _ (wM am cI cZ N S q o ro t fo k (z.1, z.2.1, z.2.2.1, z.2.2.2.1, z.2.2.2.2.1, (upd (mWn S q N o j2 (mWd S q N o z.2.2.2.2.2.1 d) i1) (170 * j2 + i1) (mWv S q N o j2 (mWn S q N o j2 (mWd S q N o z.2.2.2.2.2.1 d) i1) i1)), z.2.2.2.2.2.2.1, z.2.2.2.2.2.2.2)) := hD
            refine lv_iinc (v := (nI (i1 + 1))) (lv' := [(2, .int (nI (i1 + 1))), (5, .int (mWv S q N o j2 (mWn S q N o j2 (mWd S q N o z.2.2.2.2.2.1 d) i1) i1)), (4, .int (mPth i1)), (0, .ref (am 0)), (1, .int (nI j2)), (3, .int (nI (i1 / 17)))]) hx hb dX10_findWays_180 hl (k := 4) rfl (nI_add i1 1) (by decide) rfl (fun ls hl => ?_)
            refine lv_goto (tgt := 13) hx hb dX10_findWays_183 (by decide) ?_
            exact ih_13 (i1 + 1) ls H locs (show (i1 + 1) ≤ 170 from hlt1) (show 170 - (i1 + 1) < 170 - i1 from by omega) (show lv_has ls 7 [(0, .ref (am 0)), (1, .int (nI j2)), (2, .int (nI (i1 + 1)))] from lv_sub hl [3, 4, 0] rfl) hP hD hS
          · skip
            have c_5 := zb_ne0 c_5
            refine lv_iload_n hx hb dX10_findWays_74 rfl (lv_at hl 3 rfl) ?_
            refine lv_aload_n hx hb dX10_findWays_75 rfl (lv_at hl 2 rfl) ?_
            refine va_get (D := D) (ci := 10) (v := .int (nI o.1)) (C := RX10) (T := TX10) (N := 41) hx hb hts hin10 hown hK.1 hP 0 rfl rfl 23 (by decide) (hts _ fl_X10_150) (fun _ h9 => h9) rfl dX10_findWays_76 ?_
            refine lv_iconst (v := 1) hx hb dX10_findWays_79 (by decide) ?_
            refine lv_isub hx hb dX10_findWays_80 ?_
            rw [show nI o.1 - 1 = nI (o.1 - 1) from pk_sub (a := o.1) (b := 1) (by omega)]
            refine lv_icmp_ne (tgt := 88) hx hb dX10_findWays_81 (by decide) (fun c_6 => ?_) (fun c_6 => ?_)
            · skip
              have hn : ¬ j2 + 1 = o.1 := fun q9 => c_6 (by rw [show j2 = o.1 - 1 by omega])
              refine lv_iconst (v := 0) hx hb dX10_findWays_88 (by decide) ?_
              refine lv_istore (lv' := [(5, .int 0), (4, .int (mPth i1)), (0, .ref (am 0)), (1, .int (nI j2)), (2, .int (nI i1)), (3, .int (nI (i1 / 17)))]) hx hb dX10_findWays_89 hl (by decide) rfl (fun ls hl => ?_)
              have hl : lv_has ls 7 [(5, .int (mWm N o j2 (mWn S q N o j2 (mWd S q N o z.2.2.2.2.2.1 d) i1) (nI (i1 / 17)) (mPth i1) 0)), (4, .int (mPth i1)), (0, .ref (am 0)), (1, .int (nI j2)), (2, .int (nI i1)), (3, .int (nI (i1 / 17)))] := by rw [show (mWm N o j2 (mWn S q N o j2 (mWd S q N o z.2.2.2.2.2.1 d) i1) (nI (i1 / 17)) (mPth i1) 0) = 0 from by rw [mWm]; first | exact if_pos hn | exact if_neg hn]; exact hl
              refine lv_iconst (v := 0) hx hb dX10_findWays_91 (by decide) ?_
              refine lv_istore (lv' := [(6, .int 0), (5, .int (mWm N o j2 (mWn S q N o j2 (mWd S q N o z.2.2.2.2.2.1 d) i1) (nI (i1 / 17)) (mPth i1) 0)), (4, .int (mPth i1)), (0, .ref (am 0)), (1, .int (nI j2)), (2, .int (nI i1)), (3, .int (nI (i1 / 17)))]) hx hb dX10_findWays_92 hl (by decide) rfl (fun ls hl => ?_)
              refine w_loop (α := Nat) (fun a9 => a9 ≤ N_n N) (fun a9 => N_n N - a9) (fun a9 => [(0, .ref (am 0)), (1, .int (nI j2)), (2, .int (nI i1)), (3, .int (nI (i1 / 17))), (4, .int (mPth i1)), (5, .int (mWm N o j2 (mWn S q N o j2 (mWd S q N o z.2.2.2.2.2.1 d) i1) (nI (i1 / 17)) (mPth i1) a9)), (6, .int (nI a9))]) 94 7 ?_ 0 (Nat.zero_le _) (show lv_has ls 7 [(0, .ref (am 0)), (1, .int (nI j2)), (2, .int (nI i1)), (3, .int (nI (i1 / 17))), (4, .int (mPth i1)), (5, .int (mWm N o j2 (mWn S q N o j2 (mWd S q N o z.2.2.2.2.2.1 d) i1) (nI (i1 / 17)) (mPth i1) 0)), (6, .int (nI 0))] from lv_sub hl [3, 4, 5, 6, 2, 1, 0] rfl)
              intro a9 ls hI hl ih_94
              obtain ⟨i, rfl⟩ : ∃ z, z = a9 := ⟨a9, rfl⟩
              have hI : i ≤ N_n N := hI
              have hl : lv_has ls 7 [(0, .ref (am 0)), (1, .int (nI j2)), (2, .int (nI i1)), (3, .int (nI (i1 / 17))), (4, .int (mPth i1)), (5, .int (mWm N o j2 (mWn S q N o j2 (mWd S q N o z.2.2.2.2.2.1 d) i1) (nI (i1 / 17)) (mPth i1) i)), (6, .int (nI i))] := hl
              refine lv_iload hx hb dX10_findWays_94 (lv_at hl 6 rfl) ?_
              refine lv_aload_n hx hb dX10_findWays_96 rfl (lv_at hl 0 rfl) ?_
              refine va_get (D := D) (ci := 10) (v := .int (nI (N_n N))) (C := RX10) (T := TX10) (N := 41) hx hb hts hin10 hown hK.1 hP 0 rfl rfl 0 (by decide) (hts _ fl_X10_94) (fun _ h9 => h9) rfl dX10_findWays_97 ?_
              refine lv_icmp_ge (tgt := 166) hx hb dX10_findWays_100 (by decide) (fun c_7 => ?_) (fun c_7 => ?_)
              · skip
                have hge : N_n N ≤ i := zge (by have := hI; omega) (by omega) c_7
                have hmm : (mWm N o j2 (mWn S q N o j2 (mWd S q N o z.2.2.2.2.2.1 d) i1) (nI (i1 / 17)) (mPth i1) (N_n N)) = (mWm N o j2 (mWn S q N o j2 (mWd S q N o z.2.2.2.2.2.1 d) i1) (nI (i1 / 17)) (mPth i1) i) := by rw [show N_n N = i by have := hI; omega]
                have hl : lv_has ls 7 [(0, .ref (am 0)), (1, .int (nI j2)), (2, .int (nI i1)), (3, .int (nI (i1 / 17))), (4, .int (mPth i1)), (5, .int (mWv S q N o j2 (mWn S q N o j2 (mWd S q N o z.2.2.2.2.2.1 d) i1) i1)), (6, .int (nI i))] := by rw [show (mWv S q N o j2 (mWn S q N o j2 (mWd S q N o z.2.2.2.2.2.1 d) i1) i1) = (mWm N o j2 (mWn S q N o j2 (mWd S q N o z.2.2.2.2.2.1 d) i1) (nI (i1 / 17)) (mPth i1) i) from by unfold mWv; rw [if_pos ⟨Or.inl c_4, c_5⟩]; exact hmm]; exact hl
                refine lv_aload_n hx hb dX10_findWays_166 rfl (lv_at hl 0 rfl) ?_
                refine va_get (D := D) (ci := 10) (v := .ref (am 15)) (C := RX10) (T := TX10) (N := 41) hx hb hts hin10 hown hK.1 hP 0 rfl rfl 25 (by decide) (hts _ fl_X10_57) (fun _ h9 => h9) rfl dX10_findWays_167 ?_
                refine lv_sipush (v := 170) hx hb dX10_findWays_170 (by decide) ?_
                refine lv_iload_n hx hb dX10_findWays_173 rfl (lv_at hl 1 rfl) ?_
                refine lv_imul hx hb dX10_findWays_174 ?_
                rw [show (170 : Int32) * nI j2 = nI (170 * j2) from pk_mul (170) (j2)]
                refine lv_iload_n hx hb dX10_findWays_175 rfl (lv_at hl 2 rfl) ?_
                refine lv_iadd hx hb dX10_findWays_176 ?_
                rw [show nI (170 * j2) + nI i1 = nI (170 * j2 + i1) from nI_add _ _]
                refine lv_iload hx hb dX10_findWays_177 (lv_at hl 5 rfl) ?_
                refine z_iast hx hb hK.1 hP hD hS 15 0 rfl rfl (170 * j2 + i1) rfl (show 170 * j2 + i1 < 1360 by omega) (by decide)  dX10_findWays_179 (fun H locs hP hD hS => ?_)
                have hP : va_P D vwCl (wM am cI cZ N S q o ro t fo k (z.1, z.2.1, z.2.2.1, z.2.2.2.1, z.2.2.2.2.1, (upd (mWn S q N o j2 (mWd S q N o z.2.2.2.2.2.1 d) i1) (170 * j2 + i1) (mWv S q N o j2 (mWn S q N o j2 (mWd S q N o z.2.2.2.2.2.1 d) i1) i1)), z.2.2.2.2.2.2.1, z.2.2.2.2.2.2.2)) H := hP
                have hD : va_D _ (wM am cI cZ N S q o ro t fo k (z.1, z.2.1, z.2.2.1, z.2.2.2.1, z.2.2.2.2.1, (upd (mWn S q N o j2 (mWd S q N o z.2.2.2.2.2.1 d) i1) (170 * j2 + i1) (mWv S q N o j2 (mWn S q N o j2 (mWd S q N o z.2.2.2.2.2.1 d) i1) i1)), z.2.2.2.2.2.2.1, z.2.2.2.2.2.2.2)) := hD
                refine lv_iinc (v := (nI (i1 + 1))) (lv' := [(2, .int (nI (i1 + 1))), (0, .ref (am 0)), (1, .int (nI j2)), (3, .int (nI (i1 / 17))), (4, .int (mPth i1)), (5, .int (mWv S q N o j2 (mWn S q N o j2 (mWd S q N o z.2.2.2.2.2.1 d) i1) i1)), (6, .int (nI i))]) hx hb dX10_findWays_180 hl (k := 2) rfl (nI_add i1 1) (by decide) rfl (fun ls hl => ?_)
                refine lv_goto (tgt := 13) hx hb dX10_findWays_183 (by decide) ?_
                exact ih_13 (i1 + 1) ls H locs (show (i1 + 1) ≤ 170 from hlt1) (show 170 - (i1 + 1) < 170 - i1 from by omega) (show lv_has ls 7 [(0, .ref (am 0)), (1, .int (nI j2)), (2, .int (nI (i1 + 1)))] from lv_sub hl [1, 2, 0] rfl) hP hD hS
              · skip
                have hlt : i < N_n N := zlt (by have := hI; omega) (by omega) c_7
                refine lv_iload_n hx hb dX10_findWays_103 rfl (lv_at hl 1 rfl) ?_
                refine lv_aload_n hx hb dX10_findWays_104 rfl (lv_at hl 0 rfl) ?_
                refine va_get (D := D) (ci := 10) (v := .int (nI o.1)) (C := RX10) (T := TX10) (N := 41) hx hb hts hin10 hown hK.1 hP 0 rfl rfl 23 (by decide) (hts _ fl_X10_150) (fun _ h9 => h9) rfl dX10_findWays_105 ?_
                refine lv_iconst (v := 1) hx hb dX10_findWays_108 (by decide) ?_
                refine lv_isub hx hb dX10_findWays_109 ?_
                rw [show nI o.1 - 1 = nI (o.1 - 1) from pk_sub (a := o.1) (b := 1) (by omega)]
                refine lv_icmp_ge (tgt := 166) hx hb dX10_findWays_110 (by decide) (fun c_8 => ?_) (fun c_8 => ?_)
                · skip
                  exact absurd c_8 (by rw [Int32.not_le, nI_ltI (by omega) (by omega)]; omega)
                · skip
                  refine lv_iload hx hb dX10_findWays_113 (lv_at hl 5 rfl) ?_
                  refine lv_aload_n hx hb dX10_findWays_115 rfl (lv_at hl 0 rfl) ?_
                  refine lv_iload_n hx hb dX10_findWays_116 rfl (lv_at hl 3 rfl) ?_
                  refine lv_iload hx hb dX10_findWays_117 (lv_at hl 4 rfl) ?_
                  refine lv_iload hx hb dX10_findWays_119 (lv_at hl 6 rfl) ?_
                  refine ro_V (As := [.int (nI (i1 / 17)), .int (mPth i1), .int (nI i)]) (rest := [.int (mWm N o j2 (mWn S q N o j2 (mWd S q N o z.2.2.2.2.2.1 d) i1) (nI (i1 / 17)) (mPth i1) i)]) ⟨hx, hb, hml, hown, hts⟩ (c_X10_mayGo l D cI cZ am N hN16 S hS24 q o ho8 ro hr10 t ht6 fo hf5 k hk8 (z.1, z.2.1, z.2.2.1, z.2.2.2.1, z.2.2.2.2.1, (mWn S q N o j2 (mWd S q N o z.2.2.2.2.2.1 d) i1), z.2.2.2.2.2.2.1, z.2.2.2.2.2.2.2) (nI (i1 / 17)) (mPth i1) (nI i)) (cw_X10_156 hts rfl rfl ⟨Nat.le_of_ble_eq_true rfl, Nat.le_of_ble_eq_true rfl⟩) hK hP (ci := 10) rfl rfl rfl hl.1 rfl (Nat.le_of_ble_eq_true rfl) dX10_findWays_121 ⟨Nat.zero_le _, Nat.zero_le _⟩ ?_
                  refine lv_if_eq (tgt := 156) hx hb dX10_findWays_124 (by decide) (fun c_9 => ?_) (fun c_9 => ?_)
                  · skip
                    have c_9 := zb_eq0 c_9
                    refine lv_iconst (v := 0) hx hb dX10_findWays_156 (by decide) ?_
                    refine lv_iadd hx hb dX10_findWays_157 ?_
                    refine lv_istore (lv' := [(5, .int ((mWm N o j2 (mWn S q N o j2 (mWd S q N o z.2.2.2.2.2.1 d) i1) (nI (i1 / 17)) (mPth i1) i) + 0)), (0, .ref (am 0)), (1, .int (nI j2)), (2, .int (nI i1)), (3, .int (nI (i1 / 17))), (4, .int (mPth i1)), (6, .int (nI i))]) hx hb dX10_findWays_158 hl (by decide) rfl (fun ls hl => ?_)
                    have hl : lv_has ls 7 [(5, .int (mWm N o j2 (mWn S q N o j2 (mWd S q N o z.2.2.2.2.2.1 d) i1) (nI (i1 / 17)) (mPth i1) (i + 1))), (0, .ref (am 0)), (1, .int (nI j2)), (2, .int (nI i1)), (3, .int (nI (i1 / 17))), (4, .int (mPth i1)), (6, .int (nI i))] := by rw [show (mWm N o j2 (mWn S q N o j2 (mWd S q N o z.2.2.2.2.2.1 d) i1) (nI (i1 / 17)) (mPth i1) (i + 1)) = ((mWm N o j2 (mWn S q N o j2 (mWd S q N o z.2.2.2.2.2.1 d) i1) (nI (i1 / 17)) (mPth i1) i) + 0) from by rw [mWm, if_neg hn, if_neg c_9]]; exact hl
                    refine lv_iinc (v := (nI (i + 1))) (lv' := [(6, .int (nI (i + 1))), (5, .int (mWm N o j2 (mWn S q N o j2 (mWd S q N o z.2.2.2.2.2.1 d) i1) (nI (i1 / 17)) (mPth i1) (i + 1))), (0, .ref (am 0)), (1, .int (nI j2)), (2, .int (nI i1)), (3, .int (nI (i1 / 17))), (4, .int (mPth i1))]) hx hb dX10_findWays_160 hl (k := 6) rfl (nI_add i 1) (by decide) rfl (fun ls hl => ?_)
                    refine lv_goto (tgt := 94) hx hb dX10_findWays_163 (by decide) ?_
                    exact ih_94 (i + 1) ls (show (i + 1) ≤ N_n N from hlt) (show N_n N - (i + 1) < N_n N - i from by omega) (show lv_has ls 7 [(0, .ref (am 0)), (1, .int (nI j2)), (2, .int (nI i1)), (3, .int (nI (i1 / 17))), (4, .int (mPth i1)), (5, .int (mWm N o j2 (mWn S q N o j2 (mWd S q N o z.2.2.2.2.2.1 d) i1) (nI (i1 / 17)) (mPth i1) (i + 1))), (6, .int (nI (i + 1)))] from lv_sub hl [2, 3, 4, 5, 6, 1, 0] rfl)
                  · skip
                    have c_9 := zb_ne0 c_9
                    refine lv_aload_n hx hb dX10_findWays_127 rfl (lv_at hl 0 rfl) ?_
                    refine va_get (D := D) (ci := 10) (v := .ref (am 15)) (C := RX10) (T := TX10) (N := 41) hx hb hts hin10 hown hK.1 hP 0 rfl rfl 25 (by decide) (hts _ fl_X10_57) (fun _ h9 => h9) rfl dX10_findWays_128 ?_
                    refine lv_sipush (v := 170) hx hb dX10_findWays_131 (by decide) ?_
                    refine lv_iload_n hx hb dX10_findWays_134 rfl (lv_at hl 1 rfl) ?_
                    refine lv_iconst (v := 1) hx hb dX10_findWays_135 (by decide) ?_
                    refine lv_iadd hx hb dX10_findWays_136 ?_
                    rw [nI_1 j2]
                    refine lv_imul hx hb dX10_findWays_137 ?_
                    rw [show (170 : Int32) * nI (j2 + 1) = nI (170 * (j2 + 1)) from pk_mul (170) ((j2 + 1))]
                    refine lv_bipush (v := 17) hx hb dX10_findWays_138 (by decide) ?_
                    refine lv_aload_n hx hb dX10_findWays_140 rfl (lv_at hl 0 rfl) ?_
                    refine lv_iload hx hb dX10_findWays_141 (lv_at hl 6 rfl) ?_
                    refine lv_iload_n hx hb dX10_findWays_143 rfl (lv_at hl 3 rfl) ?_
                    refine ro_V (As := [.int (nI i), .int (nI (i1 / 17))]) (rest := [.int 17, .int (nI (170 * (j2 + 1))), .ref (am 15), .int (mWm N o j2 (mWn S q N o j2 (mWd S q N o z.2.2.2.2.2.1 d) i1) (nI (i1 / 17)) (mPth i1) i)]) ⟨hx, hb, hml, hown, hts⟩ (c_X10_otherEnd l D cI cZ am N hN16 S hS24 q o ho8 ro hr10 t ht6 fo hf5 k hk8 (z.1, z.2.1, z.2.2.1, z.2.2.2.1, z.2.2.2.2.1, (mWn S q N o j2 (mWd S q N o z.2.2.2.2.2.1 d) i1), z.2.2.2.2.2.2.1, z.2.2.2.2.2.2.2) i (show i < 16 by omega) (nI (i1 / 17))) (cw_X10_143 hts rfl rfl ⟨Nat.le_of_ble_eq_true rfl, Nat.le_of_ble_eq_true rfl⟩) hK hP (ci := 10) rfl rfl rfl hl.1 rfl (Nat.le_of_ble_eq_true rfl) dX10_findWays_144 ⟨Nat.zero_le _, Nat.zero_le _⟩ ?_
                    obtain ⟨a8, ha8, ea8⟩ := mOE_ne hNE hlt (nI (i1 / 17))
                    rw [ea8]
                    have hcl : (mOE N i (nI (i1 / 17))).toNatClampNeg = a8 := by rw [ea8, nI_cl (by omega)]
                    refine lv_imul hx hb dX10_findWays_147 ?_
                    rw [show (17 : Int32) * nI a8 = nI (17 * a8) from pk_mul (17) (a8)]
                    refine lv_iadd hx hb dX10_findWays_148 ?_
                    rw [show nI (170 * (j2 + 1)) + nI (17 * a8) = nI (170 * (j2 + 1) + 17 * a8) from nI_add _ _]
                    refine lv_iload hx hb dX10_findWays_149 (lv_at hl 6 rfl) ?_
                    refine lv_iadd hx hb dX10_findWays_151 ?_
                    rw [show nI (170 * (j2 + 1) + 17 * a8) + nI i = nI (170 * (j2 + 1) + 17 * a8 + i) from nI_add _ _]
                    refine z_iald hx hb hK.1 hP 15 0 rfl rfl (170 * (j2 + 1) + 17 * a8 + i) rfl (show 170 * (j2 + 1) + 17 * a8 + i < 1360 by omega) (by decide) dX10_findWays_152 ?_
                    refine lv_goto (tgt := 157) hx hb dX10_findWays_153 (by decide) ?_
                    refine lv_iadd hx hb dX10_findWays_157 ?_
                    refine lv_istore (lv' := [(5, .int ((mWm N o j2 (mWn S q N o j2 (mWd S q N o z.2.2.2.2.2.1 d) i1) (nI (i1 / 17)) (mPth i1) i) + ((mWn S q N o j2 (mWd S q N o z.2.2.2.2.2.1 d) i1) (170 * (j2 + 1) + 17 * a8 + i)))), (0, .ref (am 0)), (1, .int (nI j2)), (2, .int (nI i1)), (3, .int (nI (i1 / 17))), (4, .int (mPth i1)), (6, .int (nI i))]) hx hb dX10_findWays_158 hl (by decide) rfl (fun ls hl => ?_)
                    have hl : lv_has ls 7 [(5, .int (mWm N o j2 (mWn S q N o j2 (mWd S q N o z.2.2.2.2.2.1 d) i1) (nI (i1 / 17)) (mPth i1) (i + 1))), (0, .ref (am 0)), (1, .int (nI j2)), (2, .int (nI i1)), (3, .int (nI (i1 / 17))), (4, .int (mPth i1)), (6, .int (nI i))] := by rw [show (mWm N o j2 (mWn S q N o j2 (mWd S q N o z.2.2.2.2.2.1 d) i1) (nI (i1 / 17)) (mPth i1) (i + 1)) = ((mWm N o j2 (mWn S q N o j2 (mWd S q N o z.2.2.2.2.2.1 d) i1) (nI (i1 / 17)) (mPth i1) i) + ((mWn S q N o j2 (mWd S q N o z.2.2.2.2.2.1 d) i1) (170 * (j2 + 1) + 17 * a8 + i))) from by rw [mWm, if_neg hn, if_pos c_9, hcl]]; exact hl
                    refine lv_iinc (v := (nI (i + 1))) (lv' := [(6, .int (nI (i + 1))), (5, .int (mWm N o j2 (mWn S q N o j2 (mWd S q N o z.2.2.2.2.2.1 d) i1) (nI (i1 / 17)) (mPth i1) (i + 1))), (0, .ref (am 0)), (1, .int (nI j2)), (2, .int (nI i1)), (3, .int (nI (i1 / 17))), (4, .int (mPth i1))]) hx hb dX10_findWays_160 hl (k := 6) rfl (nI_add i 1) (by decide) rfl (fun ls hl => ?_)
                    refine lv_goto (tgt := 94) hx hb dX10_findWays_163 (by decide) ?_
                    exact ih_94 (i + 1) ls (show (i + 1) ≤ N_n N from hlt) (show N_n N - (i + 1) < N_n N - i from by omega) (show lv_has ls 7 [(0, .ref (am 0)), (1, .int (nI j2)), (2, .int (nI i1)), (3, .int (nI (i1 / 17))), (4, .int (mPth i1)), (5, .int (mWm N o j2 (mWn S q N o j2 (mWd S q N o z.2.2.2.2.2.1 d) i1) (nI (i1 / 17)) (mPth i1) (i + 1))), (6, .int (nI (i + 1)))] from lv_sub hl [2, 3, 4, 5, 6, 1, 0] rfl)
            · skip
              have hn : j2 + 1 = o.1 := by have h9 := c_6; rw [nI_eq (by omega) (by omega)] at h9; omega
              refine lv_iconst (v := 1) hx hb dX10_findWays_84 (by decide) ?_
              refine lv_goto (tgt := 89) hx hb dX10_findWays_85 (by decide) ?_
              refine lv_istore (lv' := [(5, .int 1), (4, .int (mPth i1)), (0, .ref (am 0)), (1, .int (nI j2)), (2, .int (nI i1)), (3, .int (nI (i1 / 17)))]) hx hb dX10_findWays_89 hl (by decide) rfl (fun ls hl => ?_)
              have hl : lv_has ls 7 [(5, .int (mWm N o j2 (mWn S q N o j2 (mWd S q N o z.2.2.2.2.2.1 d) i1) (nI (i1 / 17)) (mPth i1) 0)), (4, .int (mPth i1)), (0, .ref (am 0)), (1, .int (nI j2)), (2, .int (nI i1)), (3, .int (nI (i1 / 17)))] := by rw [show (mWm N o j2 (mWn S q N o j2 (mWd S q N o z.2.2.2.2.2.1 d) i1) (nI (i1 / 17)) (mPth i1) 0) = 1 from by rw [mWm]; first | exact if_pos hn | exact if_neg hn]; exact hl
              refine lv_iconst (v := 0) hx hb dX10_findWays_91 (by decide) ?_
              refine lv_istore (lv' := [(6, .int 0), (5, .int (mWm N o j2 (mWn S q N o j2 (mWd S q N o z.2.2.2.2.2.1 d) i1) (nI (i1 / 17)) (mPth i1) 0)), (4, .int (mPth i1)), (0, .ref (am 0)), (1, .int (nI j2)), (2, .int (nI i1)), (3, .int (nI (i1 / 17)))]) hx hb dX10_findWays_92 hl (by decide) rfl (fun ls hl => ?_)
              refine w_loop (α := Nat) (fun a9 => a9 ≤ N_n N) (fun a9 => N_n N - a9) (fun a9 => [(0, .ref (am 0)), (1, .int (nI j2)), (2, .int (nI i1)), (3, .int (nI (i1 / 17))), (4, .int (mPth i1)), (5, .int (mWm N o j2 (mWn S q N o j2 (mWd S q N o z.2.2.2.2.2.1 d) i1) (nI (i1 / 17)) (mPth i1) a9)), (6, .int (nI a9))]) 94 7 ?_ 0 (Nat.zero_le _) (show lv_has ls 7 [(0, .ref (am 0)), (1, .int (nI j2)), (2, .int (nI i1)), (3, .int (nI (i1 / 17))), (4, .int (mPth i1)), (5, .int (mWm N o j2 (mWn S q N o j2 (mWd S q N o z.2.2.2.2.2.1 d) i1) (nI (i1 / 17)) (mPth i1) 0)), (6, .int (nI 0))] from lv_sub hl [3, 4, 5, 6, 2, 1, 0] rfl)
              intro a9 ls hI hl ih_94
              obtain ⟨i, rfl⟩ : ∃ z, z = a9 := ⟨a9, rfl⟩
              have hI : i ≤ N_n N := hI
              have hl : lv_has ls 7 [(0, .ref (am 0)), (1, .int (nI j2)), (2, .int (nI i1)), (3, .int (nI (i1 / 17))), (4, .int (mPth i1)), (5, .int (mWm N o j2 (mWn S q N o j2 (mWd S q N o z.2.2.2.2.2.1 d) i1) (nI (i1 / 17)) (mPth i1) i)), (6, .int (nI i))] := hl
              refine lv_iload hx hb dX10_findWays_94 (lv_at hl 6 rfl) ?_
              refine lv_aload_n hx hb dX10_findWays_96 rfl (lv_at hl 0 rfl) ?_
              refine va_get (D := D) (ci := 10) (v := .int (nI (N_n N))) (C := RX10) (T := TX10) (N := 41) hx hb hts hin10 hown hK.1 hP 0 rfl rfl 0 (by decide) (hts _ fl_X10_94) (fun _ h9 => h9) rfl dX10_findWays_97 ?_
              refine lv_icmp_ge (tgt := 166) hx hb dX10_findWays_100 (by decide) (fun c_10 => ?_) (fun c_10 => ?_)
              · skip
                have hge : N_n N ≤ i := zge (by have := hI; omega) (by omega) c_10
                have hmm : (mWm N o j2 (mWn S q N o j2 (mWd S q N o z.2.2.2.2.2.1 d) i1) (nI (i1 / 17)) (mPth i1) (N_n N)) = (mWm N o j2 (mWn S q N o j2 (mWd S q N o z.2.2.2.2.2.1 d) i1) (nI (i1 / 17)) (mPth i1) i) := by rw [show N_n N = i by have := hI; omega]
                have hl : lv_has ls 7 [(0, .ref (am 0)), (1, .int (nI j2)), (2, .int (nI i1)), (3, .int (nI (i1 / 17))), (4, .int (mPth i1)), (5, .int (mWv S q N o j2 (mWn S q N o j2 (mWd S q N o z.2.2.2.2.2.1 d) i1) i1)), (6, .int (nI i))] := by rw [show (mWv S q N o j2 (mWn S q N o j2 (mWd S q N o z.2.2.2.2.2.1 d) i1) i1) = (mWm N o j2 (mWn S q N o j2 (mWd S q N o z.2.2.2.2.2.1 d) i1) (nI (i1 / 17)) (mPth i1) i) from by unfold mWv; rw [if_pos ⟨Or.inl c_4, c_5⟩]; exact hmm]; exact hl
                refine lv_aload_n hx hb dX10_findWays_166 rfl (lv_at hl 0 rfl) ?_
                refine va_get (D := D) (ci := 10) (v := .ref (am 15)) (C := RX10) (T := TX10) (N := 41) hx hb hts hin10 hown hK.1 hP 0 rfl rfl 25 (by decide) (hts _ fl_X10_57) (fun _ h9 => h9) rfl dX10_findWays_167 ?_
                refine lv_sipush (v := 170) hx hb dX10_findWays_170 (by decide) ?_
                refine lv_iload_n hx hb dX10_findWays_173 rfl (lv_at hl 1 rfl) ?_
                refine lv_imul hx hb dX10_findWays_174 ?_
                rw [show (170 : Int32) * nI j2 = nI (170 * j2) from pk_mul (170) (j2)]
                refine lv_iload_n hx hb dX10_findWays_175 rfl (lv_at hl 2 rfl) ?_
                refine lv_iadd hx hb dX10_findWays_176 ?_
                rw [show nI (170 * j2) + nI i1 = nI (170 * j2 + i1) from nI_add _ _]
                refine lv_iload hx hb dX10_findWays_177 (lv_at hl 5 rfl) ?_
                refine z_iast hx hb hK.1 hP hD hS 15 0 rfl rfl (170 * j2 + i1) rfl (show 170 * j2 + i1 < 1360 by omega) (by decide)  dX10_findWays_179 (fun H locs hP hD hS => ?_)
                have hP : va_P D vwCl (wM am cI cZ N S q o ro t fo k (z.1, z.2.1, z.2.2.1, z.2.2.2.1, z.2.2.2.2.1, (upd (mWn S q N o j2 (mWd S q N o z.2.2.2.2.2.1 d) i1) (170 * j2 + i1) (mWv S q N o j2 (mWn S q N o j2 (mWd S q N o z.2.2.2.2.2.1 d) i1) i1)), z.2.2.2.2.2.2.1, z.2.2.2.2.2.2.2)) H := hP
                have hD : va_D _ (wM am cI cZ N S q o ro t fo k (z.1, z.2.1, z.2.2.1, z.2.2.2.1, z.2.2.2.2.1, (upd (mWn S q N o j2 (mWd S q N o z.2.2.2.2.2.1 d) i1) (170 * j2 + i1) (mWv S q N o j2 (mWn S q N o j2 (mWd S q N o z.2.2.2.2.2.1 d) i1) i1)), z.2.2.2.2.2.2.1, z.2.2.2.2.2.2.2)) := hD
                refine lv_iinc (v := (nI (i1 + 1))) (lv' := [(2, .int (nI (i1 + 1))), (0, .ref (am 0)), (1, .int (nI j2)), (3, .int (nI (i1 / 17))), (4, .int (mPth i1)), (5, .int (mWv S q N o j2 (mWn S q N o j2 (mWd S q N o z.2.2.2.2.2.1 d) i1) i1)), (6, .int (nI i))]) hx hb dX10_findWays_180 hl (k := 2) rfl (nI_add i1 1) (by decide) rfl (fun ls hl => ?_)
                refine lv_goto (tgt := 13) hx hb dX10_findWays_183 (by decide) ?_
                exact ih_13 (i1 + 1) ls H locs (show (i1 + 1) ≤ 170 from hlt1) (show 170 - (i1 + 1) < 170 - i1 from by omega) (show lv_has ls 7 [(0, .ref (am 0)), (1, .int (nI j2)), (2, .int (nI (i1 + 1)))] from lv_sub hl [1, 2, 0] rfl) hP hD hS
              · skip
                have hlt : i < N_n N := zlt (by have := hI; omega) (by omega) c_10
                refine lv_iload_n hx hb dX10_findWays_103 rfl (lv_at hl 1 rfl) ?_
                refine lv_aload_n hx hb dX10_findWays_104 rfl (lv_at hl 0 rfl) ?_
                refine va_get (D := D) (ci := 10) (v := .int (nI o.1)) (C := RX10) (T := TX10) (N := 41) hx hb hts hin10 hown hK.1 hP 0 rfl rfl 23 (by decide) (hts _ fl_X10_150) (fun _ h9 => h9) rfl dX10_findWays_105 ?_
                refine lv_iconst (v := 1) hx hb dX10_findWays_108 (by decide) ?_
                refine lv_isub hx hb dX10_findWays_109 ?_
                rw [show nI o.1 - 1 = nI (o.1 - 1) from pk_sub (a := o.1) (b := 1) (by omega)]
                refine lv_icmp_ge (tgt := 166) hx hb dX10_findWays_110 (by decide) (fun c_11 => ?_) (fun c_11 => ?_)
                · skip
                  have hmm : (mWm N o j2 (mWn S q N o j2 (mWd S q N o z.2.2.2.2.2.1 d) i1) (nI (i1 / 17)) (mPth i1) (N_n N)) = (mWm N o j2 (mWn S q N o j2 (mWd S q N o z.2.2.2.2.2.1 d) i1) (nI (i1 / 17)) (mPth i1) i) := by rw [mWm_1 hn, mWm_1 hn]
                  have hl : lv_has ls 7 [(0, .ref (am 0)), (1, .int (nI j2)), (2, .int (nI i1)), (3, .int (nI (i1 / 17))), (4, .int (mPth i1)), (5, .int (mWv S q N o j2 (mWn S q N o j2 (mWd S q N o z.2.2.2.2.2.1 d) i1) i1)), (6, .int (nI i))] := by rw [show (mWv S q N o j2 (mWn S q N o j2 (mWd S q N o z.2.2.2.2.2.1 d) i1) i1) = (mWm N o j2 (mWn S q N o j2 (mWd S q N o z.2.2.2.2.2.1 d) i1) (nI (i1 / 17)) (mPth i1) i) from by unfold mWv; rw [if_pos ⟨Or.inl c_4, c_5⟩]; exact hmm]; exact hl
                  refine lv_aload_n hx hb dX10_findWays_166 rfl (lv_at hl 0 rfl) ?_
                  refine va_get (D := D) (ci := 10) (v := .ref (am 15)) (C := RX10) (T := TX10) (N := 41) hx hb hts hin10 hown hK.1 hP 0 rfl rfl 25 (by decide) (hts _ fl_X10_57) (fun _ h9 => h9) rfl dX10_findWays_167 ?_
                  refine lv_sipush (v := 170) hx hb dX10_findWays_170 (by decide) ?_
                  refine lv_iload_n hx hb dX10_findWays_173 rfl (lv_at hl 1 rfl) ?_
                  refine lv_imul hx hb dX10_findWays_174 ?_
                  rw [show (170 : Int32) * nI j2 = nI (170 * j2) from pk_mul (170) (j2)]
                  refine lv_iload_n hx hb dX10_findWays_175 rfl (lv_at hl 2 rfl) ?_
                  refine lv_iadd hx hb dX10_findWays_176 ?_
                  rw [show nI (170 * j2) + nI i1 = nI (170 * j2 + i1) from nI_add _ _]
                  refine lv_iload hx hb dX10_findWays_177 (lv_at hl 5 rfl) ?_
                  refine z_iast hx hb hK.1 hP hD hS 15 0 rfl rfl (170 * j2 + i1) rfl (show 170 * j2 + i1 < 1360 by omega) (by decide)  dX10_findWays_179 (fun H locs hP hD hS => ?_)
                  have hP : va_P D vwCl (wM am cI cZ N S q o ro t fo k (z.1, z.2.1, z.2.2.1, z.2.2.2.1, z.2.2.2.2.1, (upd (mWn S q N o j2 (mWd S q N o z.2.2.2.2.2.1 d) i1) (170 * j2 + i1) (mWv S q N o j2 (mWn S q N o j2 (mWd S q N o z.2.2.2.2.2.1 d) i1) i1)), z.2.2.2.2.2.2.1, z.2.2.2.2.2.2.2)) H := hP
                  have hD : va_D _ (wM am cI cZ N S q o ro t fo k (z.1, z.2.1, z.2.2.1, z.2.2.2.1, z.2.2.2.2.1, (upd (mWn S q N o j2 (mWd S q N o z.2.2.2.2.2.1 d) i1) (170 * j2 + i1) (mWv S q N o j2 (mWn S q N o j2 (mWd S q N o z.2.2.2.2.2.1 d) i1) i1)), z.2.2.2.2.2.2.1, z.2.2.2.2.2.2.2)) := hD
                  refine lv_iinc (v := (nI (i1 + 1))) (lv' := [(2, .int (nI (i1 + 1))), (0, .ref (am 0)), (1, .int (nI j2)), (3, .int (nI (i1 / 17))), (4, .int (mPth i1)), (5, .int (mWv S q N o j2 (mWn S q N o j2 (mWd S q N o z.2.2.2.2.2.1 d) i1) i1)), (6, .int (nI i))]) hx hb dX10_findWays_180 hl (k := 2) rfl (nI_add i1 1) (by decide) rfl (fun ls hl => ?_)
                  refine lv_goto (tgt := 13) hx hb dX10_findWays_183 (by decide) ?_
                  exact ih_13 (i1 + 1) ls H locs (show (i1 + 1) ≤ 170 from hlt1) (show 170 - (i1 + 1) < 170 - i1 from by omega) (show lv_has ls 7 [(0, .ref (am 0)), (1, .int (nI j2)), (2, .int (nI (i1 + 1)))] from lv_sub hl [1, 2, 0] rfl) hP hD hS
                · skip
                  exact absurd (show nI (o.1 - 1) ≤ nI j2 by rw [nI_leI (by omega) (by omega)]; omega) c_11
        · skip
          refine lv_aload_n hx hb dX10_findWays_53 rfl (lv_at hl 2 rfl) ?_
          refine lv_iload hx hb dX10_findWays_54 (lv_at hl 1 rfl) ?_
          refine lv_iload_n hx hb dX10_findWays_56 rfl (lv_at hl 5 rfl) ?_
          refine ro_V (As := [.int (mPth i1), .int (nI (i1 / 17))]) (rest := []) ⟨hx, hb, hml, hown, hts⟩ (c_X10_isAt l D cI cZ am N hN16 S hS24 q o ho8 ro hr10 t ht6 fo hf5 k hk8 (z.1, z.2.1, z.2.2.1, z.2.2.2.1, z.2.2.2.2.1, (mWn S q N o j2 (mWd S q N o z.2.2.2.2.2.1 d) i1), z.2.2.2.2.2.2.1, z.2.2.2.2.2.2.2) (mPth i1) (nI (i1 / 17))) (cw_X10_97 hts rfl rfl ⟨Nat.le_of_ble_eq_true rfl, Nat.le_of_ble_eq_true rfl⟩) hK hP (ci := 10) rfl rfl rfl hl.1 rfl (Nat.le_of_ble_eq_true rfl) dX10_findWays_57 ⟨Nat.zero_le _, Nat.zero_le _⟩ ?_
          refine lv_if_eq (tgt := 166) hx hb dX10_findWays_60 (by decide) (fun c_12 => ?_) (fun c_12 => ?_)
          · skip
            have c_12 := zb_eq0 c_12
            have hl : lv_has ls 7 [(5, .int (mWv S q N o j2 (mWn S q N o j2 (mWd S q N o z.2.2.2.2.2.1 d) i1) i1)), (4, .int (mPth i1)), (0, .ref (am 0)), (1, .int (nI j2)), (2, .int (nI i1)), (3, .int (nI (i1 / 17)))] := by rw [show (mWv S q N o j2 (mWn S q N o j2 (mWd S q N o z.2.2.2.2.2.1 d) i1) i1) = 0 from by unfold mWv; rw [if_neg (fun z9 => z9.1.elim c_4 c_12)]]; exact hl
            refine lv_aload_n hx hb dX10_findWays_166 rfl (lv_at hl 2 rfl) ?_
            refine va_get (D := D) (ci := 10) (v := .ref (am 15)) (C := RX10) (T := TX10) (N := 41) hx hb hts hin10 hown hK.1 hP 0 rfl rfl 25 (by decide) (hts _ fl_X10_57) (fun _ h9 => h9) rfl dX10_findWays_167 ?_
            refine lv_sipush (v := 170) hx hb dX10_findWays_170 (by decide) ?_
            refine lv_iload_n hx hb dX10_findWays_173 rfl (lv_at hl 3 rfl) ?_
            refine lv_imul hx hb dX10_findWays_174 ?_
            rw [show (170 : Int32) * nI j2 = nI (170 * j2) from pk_mul (170) (j2)]
            refine lv_iload_n hx hb dX10_findWays_175 rfl (lv_at hl 4 rfl) ?_
            refine lv_iadd hx hb dX10_findWays_176 ?_
            rw [show nI (170 * j2) + nI i1 = nI (170 * j2 + i1) from nI_add _ _]
            refine lv_iload hx hb dX10_findWays_177 (lv_at hl 0 rfl) ?_
            refine z_iast hx hb hK.1 hP hD hS 15 0 rfl rfl (170 * j2 + i1) rfl (show 170 * j2 + i1 < 1360 by omega) (by decide)  dX10_findWays_179 (fun H locs hP hD hS => ?_)
            have hP : va_P D vwCl (wM am cI cZ N S q o ro t fo k (z.1, z.2.1, z.2.2.1, z.2.2.2.1, z.2.2.2.2.1, (upd (mWn S q N o j2 (mWd S q N o z.2.2.2.2.2.1 d) i1) (170 * j2 + i1) (mWv S q N o j2 (mWn S q N o j2 (mWd S q N o z.2.2.2.2.2.1 d) i1) i1)), z.2.2.2.2.2.2.1, z.2.2.2.2.2.2.2)) H := hP
            have hD : va_D _ (wM am cI cZ N S q o ro t fo k (z.1, z.2.1, z.2.2.1, z.2.2.2.1, z.2.2.2.2.1, (upd (mWn S q N o j2 (mWd S q N o z.2.2.2.2.2.1 d) i1) (170 * j2 + i1) (mWv S q N o j2 (mWn S q N o j2 (mWd S q N o z.2.2.2.2.2.1 d) i1) i1)), z.2.2.2.2.2.2.1, z.2.2.2.2.2.2.2)) := hD
            refine lv_iinc (v := (nI (i1 + 1))) (lv' := [(2, .int (nI (i1 + 1))), (5, .int (mWv S q N o j2 (mWn S q N o j2 (mWd S q N o z.2.2.2.2.2.1 d) i1) i1)), (4, .int (mPth i1)), (0, .ref (am 0)), (1, .int (nI j2)), (3, .int (nI (i1 / 17)))]) hx hb dX10_findWays_180 hl (k := 4) rfl (nI_add i1 1) (by decide) rfl (fun ls hl => ?_)
            refine lv_goto (tgt := 13) hx hb dX10_findWays_183 (by decide) ?_
            exact ih_13 (i1 + 1) ls H locs (show (i1 + 1) ≤ 170 from hlt1) (show 170 - (i1 + 1) < 170 - i1 from by omega) (show lv_has ls 7 [(0, .ref (am 0)), (1, .int (nI j2)), (2, .int (nI (i1 + 1)))] from lv_sub hl [3, 4, 0] rfl) hP hD hS
          · skip
            have c_12 := zb_ne0 c_12
            refine lv_aload_n hx hb dX10_findWays_63 rfl (lv_at hl 2 rfl) ?_
            refine lv_iload_n hx hb dX10_findWays_64 rfl (lv_at hl 3 rfl) ?_
            refine lv_iload_n hx hb dX10_findWays_65 rfl (lv_at hl 5 rfl) ?_
            refine lv_iload hx hb dX10_findWays_66 (lv_at hl 1 rfl) ?_
            refine ro_V (As := [.int (nI j2), .int (nI (i1 / 17)), .int (mPth i1)]) (rest := []) ⟨hx, hb, hml, hown, hts⟩ (c_X10_isNoted l D cI cZ am N hN16 S hS24 q o ho8 ro hr10 t ht6 fo hf5 k hk8 (z.1, z.2.1, z.2.2.1, z.2.2.2.1, z.2.2.2.2.1, (mWn S q N o j2 (mWd S q N o z.2.2.2.2.2.1 d) i1), z.2.2.2.2.2.2.1, z.2.2.2.2.2.2.2) j2 (show j2 < 8 by omega) (nI (i1 / 17)) (mPth i1) (mAt_cm2 hN16 c_12)) (cw_X10_153 hts rfl rfl ⟨Nat.le_of_ble_eq_true rfl, Nat.le_of_ble_eq_true rfl⟩) hK hP (ci := 10) rfl rfl rfl hl.1 rfl (Nat.le_of_ble_eq_true rfl) dX10_findWays_68 ⟨Nat.zero_le _, Nat.zero_le _⟩ ?_
            refine lv_if_eq (tgt := 166) hx hb dX10_findWays_71 (by decide) (fun c_13 => ?_) (fun c_13 => ?_)
            · skip
              have c_13 := zb_eq0 c_13
              have hl : lv_has ls 7 [(5, .int (mWv S q N o j2 (mWn S q N o j2 (mWd S q N o z.2.2.2.2.2.1 d) i1) i1)), (4, .int (mPth i1)), (0, .ref (am 0)), (1, .int (nI j2)), (2, .int (nI i1)), (3, .int (nI (i1 / 17)))] := by rw [show (mWv S q N o j2 (mWn S q N o j2 (mWd S q N o z.2.2.2.2.2.1 d) i1) i1) = 0 from by unfold mWv; rw [if_neg (fun z9 => c_13 z9.2)]]; exact hl
              refine lv_aload_n hx hb dX10_findWays_166 rfl (lv_at hl 2 rfl) ?_
              refine va_get (D := D) (ci := 10) (v := .ref (am 15)) (C := RX10) (T := TX10) (N := 41) hx hb hts hin10 hown hK.1 hP 0 rfl rfl 25 (by decide) (hts _ fl_X10_57) (fun _ h9 => h9) rfl dX10_findWays_167 ?_
              refine lv_sipush (v := 170) hx hb dX10_findWays_170 (by decide) ?_
              refine lv_iload_n hx hb dX10_findWays_173 rfl (lv_at hl 3 rfl) ?_
              refine lv_imul hx hb dX10_findWays_174 ?_
              rw [show (170 : Int32) * nI j2 = nI (170 * j2) from pk_mul (170) (j2)]
              refine lv_iload_n hx hb dX10_findWays_175 rfl (lv_at hl 4 rfl) ?_
              refine lv_iadd hx hb dX10_findWays_176 ?_
              rw [show nI (170 * j2) + nI i1 = nI (170 * j2 + i1) from nI_add _ _]
              refine lv_iload hx hb dX10_findWays_177 (lv_at hl 0 rfl) ?_
              refine z_iast hx hb hK.1 hP hD hS 15 0 rfl rfl (170 * j2 + i1) rfl (show 170 * j2 + i1 < 1360 by omega) (by decide)  dX10_findWays_179 (fun H locs hP hD hS => ?_)
              have hP : va_P D vwCl (wM am cI cZ N S q o ro t fo k (z.1, z.2.1, z.2.2.1, z.2.2.2.1, z.2.2.2.2.1, (upd (mWn S q N o j2 (mWd S q N o z.2.2.2.2.2.1 d) i1) (170 * j2 + i1) (mWv S q N o j2 (mWn S q N o j2 (mWd S q N o z.2.2.2.2.2.1 d) i1) i1)), z.2.2.2.2.2.2.1, z.2.2.2.2.2.2.2)) H := hP
              have hD : va_D _ (wM am cI cZ N S q o ro t fo k (z.1, z.2.1, z.2.2.1, z.2.2.2.1, z.2.2.2.2.1, (upd (mWn S q N o j2 (mWd S q N o z.2.2.2.2.2.1 d) i1) (170 * j2 + i1) (mWv S q N o j2 (mWn S q N o j2 (mWd S q N o z.2.2.2.2.2.1 d) i1) i1)), z.2.2.2.2.2.2.1, z.2.2.2.2.2.2.2)) := hD
              refine lv_iinc (v := (nI (i1 + 1))) (lv' := [(2, .int (nI (i1 + 1))), (5, .int (mWv S q N o j2 (mWn S q N o j2 (mWd S q N o z.2.2.2.2.2.1 d) i1) i1)), (4, .int (mPth i1)), (0, .ref (am 0)), (1, .int (nI j2)), (3, .int (nI (i1 / 17)))]) hx hb dX10_findWays_180 hl (k := 4) rfl (nI_add i1 1) (by decide) rfl (fun ls hl => ?_)
              refine lv_goto (tgt := 13) hx hb dX10_findWays_183 (by decide) ?_
              exact ih_13 (i1 + 1) ls H locs (show (i1 + 1) ≤ 170 from hlt1) (show 170 - (i1 + 1) < 170 - i1 from by omega) (show lv_has ls 7 [(0, .ref (am 0)), (1, .int (nI j2)), (2, .int (nI (i1 + 1)))] from lv_sub hl [3, 4, 0] rfl) hP hD hS
            · skip
              have c_13 := zb_ne0 c_13
              refine lv_iload_n hx hb dX10_findWays_74 rfl (lv_at hl 3 rfl) ?_
              refine lv_aload_n hx hb dX10_findWays_75 rfl (lv_at hl 2 rfl) ?_
              refine va_get (D := D) (ci := 10) (v := .int (nI o.1)) (C := RX10) (T := TX10) (N := 41) hx hb hts hin10 hown hK.1 hP 0 rfl rfl 23 (by decide) (hts _ fl_X10_150) (fun _ h9 => h9) rfl dX10_findWays_76 ?_
              refine lv_iconst (v := 1) hx hb dX10_findWays_79 (by decide) ?_
              refine lv_isub hx hb dX10_findWays_80 ?_
              rw [show nI o.1 - 1 = nI (o.1 - 1) from pk_sub (a := o.1) (b := 1) (by omega)]
              refine lv_icmp_ne (tgt := 88) hx hb dX10_findWays_81 (by decide) (fun c_14 => ?_) (fun c_14 => ?_)
              · skip
                have hn : ¬ j2 + 1 = o.1 := fun q9 => c_14 (by rw [show j2 = o.1 - 1 by omega])
                refine lv_iconst (v := 0) hx hb dX10_findWays_88 (by decide) ?_
                refine lv_istore (lv' := [(5, .int 0), (4, .int (mPth i1)), (0, .ref (am 0)), (1, .int (nI j2)), (2, .int (nI i1)), (3, .int (nI (i1 / 17)))]) hx hb dX10_findWays_89 hl (by decide) rfl (fun ls hl => ?_)
                have hl : lv_has ls 7 [(5, .int (mWm N o j2 (mWn S q N o j2 (mWd S q N o z.2.2.2.2.2.1 d) i1) (nI (i1 / 17)) (mPth i1) 0)), (4, .int (mPth i1)), (0, .ref (am 0)), (1, .int (nI j2)), (2, .int (nI i1)), (3, .int (nI (i1 / 17)))] := by rw [show (mWm N o j2 (mWn S q N o j2 (mWd S q N o z.2.2.2.2.2.1 d) i1) (nI (i1 / 17)) (mPth i1) 0) = 0 from by rw [mWm]; first | exact if_pos hn | exact if_neg hn]; exact hl
                refine lv_iconst (v := 0) hx hb dX10_findWays_91 (by decide) ?_
                refine lv_istore (lv' := [(6, .int 0), (5, .int (mWm N o j2 (mWn S q N o j2 (mWd S q N o z.2.2.2.2.2.1 d) i1) (nI (i1 / 17)) (mPth i1) 0)), (4, .int (mPth i1)), (0, .ref (am 0)), (1, .int (nI j2)), (2, .int (nI i1)), (3, .int (nI (i1 / 17)))]) hx hb dX10_findWays_92 hl (by decide) rfl (fun ls hl => ?_)
                refine w_loop (α := Nat) (fun a9 => a9 ≤ N_n N) (fun a9 => N_n N - a9) (fun a9 => [(0, .ref (am 0)), (1, .int (nI j2)), (2, .int (nI i1)), (3, .int (nI (i1 / 17))), (4, .int (mPth i1)), (5, .int (mWm N o j2 (mWn S q N o j2 (mWd S q N o z.2.2.2.2.2.1 d) i1) (nI (i1 / 17)) (mPth i1) a9)), (6, .int (nI a9))]) 94 7 ?_ 0 (Nat.zero_le _) (show lv_has ls 7 [(0, .ref (am 0)), (1, .int (nI j2)), (2, .int (nI i1)), (3, .int (nI (i1 / 17))), (4, .int (mPth i1)), (5, .int (mWm N o j2 (mWn S q N o j2 (mWd S q N o z.2.2.2.2.2.1 d) i1) (nI (i1 / 17)) (mPth i1) 0)), (6, .int (nI 0))] from lv_sub hl [3, 4, 5, 6, 2, 1, 0] rfl)
                intro a9 ls hI hl ih_94
                obtain ⟨i, rfl⟩ : ∃ z, z = a9 := ⟨a9, rfl⟩
                have hI : i ≤ N_n N := hI
                have hl : lv_has ls 7 [(0, .ref (am 0)), (1, .int (nI j2)), (2, .int (nI i1)), (3, .int (nI (i1 / 17))), (4, .int (mPth i1)), (5, .int (mWm N o j2 (mWn S q N o j2 (mWd S q N o z.2.2.2.2.2.1 d) i1) (nI (i1 / 17)) (mPth i1) i)), (6, .int (nI i))] := hl
                refine lv_iload hx hb dX10_findWays_94 (lv_at hl 6 rfl) ?_
                refine lv_aload_n hx hb dX10_findWays_96 rfl (lv_at hl 0 rfl) ?_
                refine va_get (D := D) (ci := 10) (v := .int (nI (N_n N))) (C := RX10) (T := TX10) (N := 41) hx hb hts hin10 hown hK.1 hP 0 rfl rfl 0 (by decide) (hts _ fl_X10_94) (fun _ h9 => h9) rfl dX10_findWays_97 ?_
                refine lv_icmp_ge (tgt := 166) hx hb dX10_findWays_100 (by decide) (fun c_15 => ?_) (fun c_15 => ?_)
                · skip
                  have hge : N_n N ≤ i := zge (by have := hI; omega) (by omega) c_15
                  have hmm : (mWm N o j2 (mWn S q N o j2 (mWd S q N o z.2.2.2.2.2.1 d) i1) (nI (i1 / 17)) (mPth i1) (N_n N)) = (mWm N o j2 (mWn S q N o j2 (mWd S q N o z.2.2.2.2.2.1 d) i1) (nI (i1 / 17)) (mPth i1) i) := by rw [show N_n N = i by have := hI; omega]
                  have hl : lv_has ls 7 [(0, .ref (am 0)), (1, .int (nI j2)), (2, .int (nI i1)), (3, .int (nI (i1 / 17))), (4, .int (mPth i1)), (5, .int (mWv S q N o j2 (mWn S q N o j2 (mWd S q N o z.2.2.2.2.2.1 d) i1) i1)), (6, .int (nI i))] := by rw [show (mWv S q N o j2 (mWn S q N o j2 (mWd S q N o z.2.2.2.2.2.1 d) i1) i1) = (mWm N o j2 (mWn S q N o j2 (mWd S q N o z.2.2.2.2.2.1 d) i1) (nI (i1 / 17)) (mPth i1) i) from by unfold mWv; rw [if_pos ⟨Or.inr c_12, c_13⟩]; exact hmm]; exact hl
                  refine lv_aload_n hx hb dX10_findWays_166 rfl (lv_at hl 0 rfl) ?_
                  refine va_get (D := D) (ci := 10) (v := .ref (am 15)) (C := RX10) (T := TX10) (N := 41) hx hb hts hin10 hown hK.1 hP 0 rfl rfl 25 (by decide) (hts _ fl_X10_57) (fun _ h9 => h9) rfl dX10_findWays_167 ?_
                  refine lv_sipush (v := 170) hx hb dX10_findWays_170 (by decide) ?_
                  refine lv_iload_n hx hb dX10_findWays_173 rfl (lv_at hl 1 rfl) ?_
                  refine lv_imul hx hb dX10_findWays_174 ?_
                  rw [show (170 : Int32) * nI j2 = nI (170 * j2) from pk_mul (170) (j2)]
                  refine lv_iload_n hx hb dX10_findWays_175 rfl (lv_at hl 2 rfl) ?_
                  refine lv_iadd hx hb dX10_findWays_176 ?_
                  rw [show nI (170 * j2) + nI i1 = nI (170 * j2 + i1) from nI_add _ _]
                  refine lv_iload hx hb dX10_findWays_177 (lv_at hl 5 rfl) ?_
                  refine z_iast hx hb hK.1 hP hD hS 15 0 rfl rfl (170 * j2 + i1) rfl (show 170 * j2 + i1 < 1360 by omega) (by decide)  dX10_findWays_179 (fun H locs hP hD hS => ?_)
                  have hP : va_P D vwCl (wM am cI cZ N S q o ro t fo k (z.1, z.2.1, z.2.2.1, z.2.2.2.1, z.2.2.2.2.1, (upd (mWn S q N o j2 (mWd S q N o z.2.2.2.2.2.1 d) i1) (170 * j2 + i1) (mWv S q N o j2 (mWn S q N o j2 (mWd S q N o z.2.2.2.2.2.1 d) i1) i1)), z.2.2.2.2.2.2.1, z.2.2.2.2.2.2.2)) H := hP
                  have hD : va_D _ (wM am cI cZ N S q o ro t fo k (z.1, z.2.1, z.2.2.1, z.2.2.2.1, z.2.2.2.2.1, (upd (mWn S q N o j2 (mWd S q N o z.2.2.2.2.2.1 d) i1) (170 * j2 + i1) (mWv S q N o j2 (mWn S q N o j2 (mWd S q N o z.2.2.2.2.2.1 d) i1) i1)), z.2.2.2.2.2.2.1, z.2.2.2.2.2.2.2)) := hD
                  refine lv_iinc (v := (nI (i1 + 1))) (lv' := [(2, .int (nI (i1 + 1))), (0, .ref (am 0)), (1, .int (nI j2)), (3, .int (nI (i1 / 17))), (4, .int (mPth i1)), (5, .int (mWv S q N o j2 (mWn S q N o j2 (mWd S q N o z.2.2.2.2.2.1 d) i1) i1)), (6, .int (nI i))]) hx hb dX10_findWays_180 hl (k := 2) rfl (nI_add i1 1) (by decide) rfl (fun ls hl => ?_)
                  refine lv_goto (tgt := 13) hx hb dX10_findWays_183 (by decide) ?_
                  exact ih_13 (i1 + 1) ls H locs (show (i1 + 1) ≤ 170 from hlt1) (show 170 - (i1 + 1) < 170 - i1 from by omega) (show lv_has ls 7 [(0, .ref (am 0)), (1, .int (nI j2)), (2, .int (nI (i1 + 1)))] from lv_sub hl [1, 2, 0] rfl) hP hD hS
                · skip
                  have hlt : i < N_n N := zlt (by have := hI; omega) (by omega) c_15
                  refine lv_iload_n hx hb dX10_findWays_103 rfl (lv_at hl 1 rfl) ?_
                  refine lv_aload_n hx hb dX10_findWays_104 rfl (lv_at hl 0 rfl) ?_
                  refine va_get (D := D) (ci := 10) (v := .int (nI o.1)) (C := RX10) (T := TX10) (N := 41) hx hb hts hin10 hown hK.1 hP 0 rfl rfl 23 (by decide) (hts _ fl_X10_150) (fun _ h9 => h9) rfl dX10_findWays_105 ?_
                  refine lv_iconst (v := 1) hx hb dX10_findWays_108 (by decide) ?_
                  refine lv_isub hx hb dX10_findWays_109 ?_
                  rw [show nI o.1 - 1 = nI (o.1 - 1) from pk_sub (a := o.1) (b := 1) (by omega)]
                  refine lv_icmp_ge (tgt := 166) hx hb dX10_findWays_110 (by decide) (fun c_16 => ?_) (fun c_16 => ?_)
                  · skip
                    exact absurd c_16 (by rw [Int32.not_le, nI_ltI (by omega) (by omega)]; omega)
                  · skip
                    refine lv_iload hx hb dX10_findWays_113 (lv_at hl 5 rfl) ?_
                    refine lv_aload_n hx hb dX10_findWays_115 rfl (lv_at hl 0 rfl) ?_
                    refine lv_iload_n hx hb dX10_findWays_116 rfl (lv_at hl 3 rfl) ?_
                    refine lv_iload hx hb dX10_findWays_117 (lv_at hl 4 rfl) ?_
                    refine lv_iload hx hb dX10_findWays_119 (lv_at hl 6 rfl) ?_
                    refine ro_V (As := [.int (nI (i1 / 17)), .int (mPth i1), .int (nI i)]) (rest := [.int (mWm N o j2 (mWn S q N o j2 (mWd S q N o z.2.2.2.2.2.1 d) i1) (nI (i1 / 17)) (mPth i1) i)]) ⟨hx, hb, hml, hown, hts⟩ (c_X10_mayGo l D cI cZ am N hN16 S hS24 q o ho8 ro hr10 t ht6 fo hf5 k hk8 (z.1, z.2.1, z.2.2.1, z.2.2.2.1, z.2.2.2.2.1, (mWn S q N o j2 (mWd S q N o z.2.2.2.2.2.1 d) i1), z.2.2.2.2.2.2.1, z.2.2.2.2.2.2.2) (nI (i1 / 17)) (mPth i1) (nI i)) (cw_X10_156 hts rfl rfl ⟨Nat.le_of_ble_eq_true rfl, Nat.le_of_ble_eq_true rfl⟩) hK hP (ci := 10) rfl rfl rfl hl.1 rfl (Nat.le_of_ble_eq_true rfl) dX10_findWays_121 ⟨Nat.zero_le _, Nat.zero_le _⟩ ?_
                    refine lv_if_eq (tgt := 156) hx hb dX10_findWays_124 (by decide) (fun c_17 => ?_) (fun c_17 => ?_)
                    · skip
                      have c_17 := zb_eq0 c_17
                      refine lv_iconst (v := 0) hx hb dX10_findWays_156 (by decide) ?_
                      refine lv_iadd hx hb dX10_findWays_157 ?_
                      refine lv_istore (lv' := [(5, .int ((mWm N o j2 (mWn S q N o j2 (mWd S q N o z.2.2.2.2.2.1 d) i1) (nI (i1 / 17)) (mPth i1) i) + 0)), (0, .ref (am 0)), (1, .int (nI j2)), (2, .int (nI i1)), (3, .int (nI (i1 / 17))), (4, .int (mPth i1)), (6, .int (nI i))]) hx hb dX10_findWays_158 hl (by decide) rfl (fun ls hl => ?_)
                      have hl : lv_has ls 7 [(5, .int (mWm N o j2 (mWn S q N o j2 (mWd S q N o z.2.2.2.2.2.1 d) i1) (nI (i1 / 17)) (mPth i1) (i + 1))), (0, .ref (am 0)), (1, .int (nI j2)), (2, .int (nI i1)), (3, .int (nI (i1 / 17))), (4, .int (mPth i1)), (6, .int (nI i))] := by rw [show (mWm N o j2 (mWn S q N o j2 (mWd S q N o z.2.2.2.2.2.1 d) i1) (nI (i1 / 17)) (mPth i1) (i + 1)) = ((mWm N o j2 (mWn S q N o j2 (mWd S q N o z.2.2.2.2.2.1 d) i1) (nI (i1 / 17)) (mPth i1) i) + 0) from by rw [mWm, if_neg hn, if_neg c_17]]; exact hl
                      refine lv_iinc (v := (nI (i + 1))) (lv' := [(6, .int (nI (i + 1))), (5, .int (mWm N o j2 (mWn S q N o j2 (mWd S q N o z.2.2.2.2.2.1 d) i1) (nI (i1 / 17)) (mPth i1) (i + 1))), (0, .ref (am 0)), (1, .int (nI j2)), (2, .int (nI i1)), (3, .int (nI (i1 / 17))), (4, .int (mPth i1))]) hx hb dX10_findWays_160 hl (k := 6) rfl (nI_add i 1) (by decide) rfl (fun ls hl => ?_)
                      refine lv_goto (tgt := 94) hx hb dX10_findWays_163 (by decide) ?_
                      exact ih_94 (i + 1) ls (show (i + 1) ≤ N_n N from hlt) (show N_n N - (i + 1) < N_n N - i from by omega) (show lv_has ls 7 [(0, .ref (am 0)), (1, .int (nI j2)), (2, .int (nI i1)), (3, .int (nI (i1 / 17))), (4, .int (mPth i1)), (5, .int (mWm N o j2 (mWn S q N o j2 (mWd S q N o z.2.2.2.2.2.1 d) i1) (nI (i1 / 17)) (mPth i1) (i + 1))), (6, .int (nI (i + 1)))] from lv_sub hl [2, 3, 4, 5, 6, 1, 0] rfl)
                    · skip
                      have c_17 := zb_ne0 c_17
                      refine lv_aload_n hx hb dX10_findWays_127 rfl (lv_at hl 0 rfl) ?_
                      refine va_get (D := D) (ci := 10) (v := .ref (am 15)) (C := RX10) (T := TX10) (N := 41) hx hb hts hin10 hown hK.1 hP 0 rfl rfl 25 (by decide) (hts _ fl_X10_57) (fun _ h9 => h9) rfl dX10_findWays_128 ?_
                      refine lv_sipush (v := 170) hx hb dX10_findWays_131 (by decide) ?_
                      refine lv_iload_n hx hb dX10_findWays_134 rfl (lv_at hl 1 rfl) ?_
                      refine lv_iconst (v := 1) hx hb dX10_findWays_135 (by decide) ?_
                      refine lv_iadd hx hb dX10_findWays_136 ?_
                      rw [nI_1 j2]
                      refine lv_imul hx hb dX10_findWays_137 ?_
                      rw [show (170 : Int32) * nI (j2 + 1) = nI (170 * (j2 + 1)) from pk_mul (170) ((j2 + 1))]
                      refine lv_bipush (v := 17) hx hb dX10_findWays_138 (by decide) ?_
                      refine lv_aload_n hx hb dX10_findWays_140 rfl (lv_at hl 0 rfl) ?_
                      refine lv_iload hx hb dX10_findWays_141 (lv_at hl 6 rfl) ?_
                      refine lv_iload_n hx hb dX10_findWays_143 rfl (lv_at hl 3 rfl) ?_
                      refine ro_V (As := [.int (nI i), .int (nI (i1 / 17))]) (rest := [.int 17, .int (nI (170 * (j2 + 1))), .ref (am 15), .int (mWm N o j2 (mWn S q N o j2 (mWd S q N o z.2.2.2.2.2.1 d) i1) (nI (i1 / 17)) (mPth i1) i)]) ⟨hx, hb, hml, hown, hts⟩ (c_X10_otherEnd l D cI cZ am N hN16 S hS24 q o ho8 ro hr10 t ht6 fo hf5 k hk8 (z.1, z.2.1, z.2.2.1, z.2.2.2.1, z.2.2.2.2.1, (mWn S q N o j2 (mWd S q N o z.2.2.2.2.2.1 d) i1), z.2.2.2.2.2.2.1, z.2.2.2.2.2.2.2) i (show i < 16 by omega) (nI (i1 / 17))) (cw_X10_143 hts rfl rfl ⟨Nat.le_of_ble_eq_true rfl, Nat.le_of_ble_eq_true rfl⟩) hK hP (ci := 10) rfl rfl rfl hl.1 rfl (Nat.le_of_ble_eq_true rfl) dX10_findWays_144 ⟨Nat.zero_le _, Nat.zero_le _⟩ ?_
                      obtain ⟨a8, ha8, ea8⟩ := mOE_ne hNE hlt (nI (i1 / 17))
                      rw [ea8]
                      have hcl : (mOE N i (nI (i1 / 17))).toNatClampNeg = a8 := by rw [ea8, nI_cl (by omega)]
                      refine lv_imul hx hb dX10_findWays_147 ?_
                      rw [show (17 : Int32) * nI a8 = nI (17 * a8) from pk_mul (17) (a8)]
                      refine lv_iadd hx hb dX10_findWays_148 ?_
                      rw [show nI (170 * (j2 + 1)) + nI (17 * a8) = nI (170 * (j2 + 1) + 17 * a8) from nI_add _ _]
                      refine lv_iload hx hb dX10_findWays_149 (lv_at hl 6 rfl) ?_
                      refine lv_iadd hx hb dX10_findWays_151 ?_
                      rw [show nI (170 * (j2 + 1) + 17 * a8) + nI i = nI (170 * (j2 + 1) + 17 * a8 + i) from nI_add _ _]
                      refine z_iald hx hb hK.1 hP 15 0 rfl rfl (170 * (j2 + 1) + 17 * a8 + i) rfl (show 170 * (j2 + 1) + 17 * a8 + i < 1360 by omega) (by decide) dX10_findWays_152 ?_
                      refine lv_goto (tgt := 157) hx hb dX10_findWays_153 (by decide) ?_
                      refine lv_iadd hx hb dX10_findWays_157 ?_
                      refine lv_istore (lv' := [(5, .int ((mWm N o j2 (mWn S q N o j2 (mWd S q N o z.2.2.2.2.2.1 d) i1) (nI (i1 / 17)) (mPth i1) i) + ((mWn S q N o j2 (mWd S q N o z.2.2.2.2.2.1 d) i1) (170 * (j2 + 1) + 17 * a8 + i)))), (0, .ref (am 0)), (1, .int (nI j2)), (2, .int (nI i1)), (3, .int (nI (i1 / 17))), (4, .int (mPth i1)), (6, .int (nI i))]) hx hb dX10_findWays_158 hl (by decide) rfl (fun ls hl => ?_)
                      have hl : lv_has ls 7 [(5, .int (mWm N o j2 (mWn S q N o j2 (mWd S q N o z.2.2.2.2.2.1 d) i1) (nI (i1 / 17)) (mPth i1) (i + 1))), (0, .ref (am 0)), (1, .int (nI j2)), (2, .int (nI i1)), (3, .int (nI (i1 / 17))), (4, .int (mPth i1)), (6, .int (nI i))] := by rw [show (mWm N o j2 (mWn S q N o j2 (mWd S q N o z.2.2.2.2.2.1 d) i1) (nI (i1 / 17)) (mPth i1) (i + 1)) = ((mWm N o j2 (mWn S q N o j2 (mWd S q N o z.2.2.2.2.2.1 d) i1) (nI (i1 / 17)) (mPth i1) i) + ((mWn S q N o j2 (mWd S q N o z.2.2.2.2.2.1 d) i1) (170 * (j2 + 1) + 17 * a8 + i))) from by rw [mWm, if_neg hn, if_pos c_17, hcl]]; exact hl
                      refine lv_iinc (v := (nI (i + 1))) (lv' := [(6, .int (nI (i + 1))), (5, .int (mWm N o j2 (mWn S q N o j2 (mWd S q N o z.2.2.2.2.2.1 d) i1) (nI (i1 / 17)) (mPth i1) (i + 1))), (0, .ref (am 0)), (1, .int (nI j2)), (2, .int (nI i1)), (3, .int (nI (i1 / 17))), (4, .int (mPth i1))]) hx hb dX10_findWays_160 hl (k := 6) rfl (nI_add i 1) (by decide) rfl (fun ls hl => ?_)
                      refine lv_goto (tgt := 94) hx hb dX10_findWays_163 (by decide) ?_
                      exact ih_94 (i + 1) ls (show (i + 1) ≤ N_n N from hlt) (show N_n N - (i + 1) < N_n N - i from by omega) (show lv_has ls 7 [(0, .ref (am 0)), (1, .int (nI j2)), (2, .int (nI i1)), (3, .int (nI (i1 / 17))), (4, .int (mPth i1)), (5, .int (mWm N o j2 (mWn S q N o j2 (mWd S q N o z.2.2.2.2.2.1 d) i1) (nI (i1 / 17)) (mPth i1) (i + 1))), (6, .int (nI (i + 1)))] from lv_sub hl [2, 3, 4, 5, 6, 1, 0] rfl)
              · skip
                have hn : j2 + 1 = o.1 := by have h9 := c_14; rw [nI_eq (by omega) (by omega)] at h9; omega
                refine lv_iconst (v := 1) hx hb dX10_findWays_84 (by decide) ?_
                refine lv_goto (tgt := 89) hx hb dX10_findWays_85 (by decide) ?_
                refine lv_istore (lv' := [(5, .int 1), (4, .int (mPth i1)), (0, .ref (am 0)), (1, .int (nI j2)), (2, .int (nI i1)), (3, .int (nI (i1 / 17)))]) hx hb dX10_findWays_89 hl (by decide) rfl (fun ls hl => ?_)
                have hl : lv_has ls 7 [(5, .int (mWm N o j2 (mWn S q N o j2 (mWd S q N o z.2.2.2.2.2.1 d) i1) (nI (i1 / 17)) (mPth i1) 0)), (4, .int (mPth i1)), (0, .ref (am 0)), (1, .int (nI j2)), (2, .int (nI i1)), (3, .int (nI (i1 / 17)))] := by rw [show (mWm N o j2 (mWn S q N o j2 (mWd S q N o z.2.2.2.2.2.1 d) i1) (nI (i1 / 17)) (mPth i1) 0) = 1 from by rw [mWm]; first | exact if_pos hn | exact if_neg hn]; exact hl
                refine lv_iconst (v := 0) hx hb dX10_findWays_91 (by decide) ?_
                refine lv_istore (lv' := [(6, .int 0), (5, .int (mWm N o j2 (mWn S q N o j2 (mWd S q N o z.2.2.2.2.2.1 d) i1) (nI (i1 / 17)) (mPth i1) 0)), (4, .int (mPth i1)), (0, .ref (am 0)), (1, .int (nI j2)), (2, .int (nI i1)), (3, .int (nI (i1 / 17)))]) hx hb dX10_findWays_92 hl (by decide) rfl (fun ls hl => ?_)
                refine w_loop (α := Nat) (fun a9 => a9 ≤ N_n N) (fun a9 => N_n N - a9) (fun a9 => [(0, .ref (am 0)), (1, .int (nI j2)), (2, .int (nI i1)), (3, .int (nI (i1 / 17))), (4, .int (mPth i1)), (5, .int (mWm N o j2 (mWn S q N o j2 (mWd S q N o z.2.2.2.2.2.1 d) i1) (nI (i1 / 17)) (mPth i1) a9)), (6, .int (nI a9))]) 94 7 ?_ 0 (Nat.zero_le _) (show lv_has ls 7 [(0, .ref (am 0)), (1, .int (nI j2)), (2, .int (nI i1)), (3, .int (nI (i1 / 17))), (4, .int (mPth i1)), (5, .int (mWm N o j2 (mWn S q N o j2 (mWd S q N o z.2.2.2.2.2.1 d) i1) (nI (i1 / 17)) (mPth i1) 0)), (6, .int (nI 0))] from lv_sub hl [3, 4, 5, 6, 2, 1, 0] rfl)
                intro a9 ls hI hl ih_94
                obtain ⟨i, rfl⟩ : ∃ z, z = a9 := ⟨a9, rfl⟩
                have hI : i ≤ N_n N := hI
                have hl : lv_has ls 7 [(0, .ref (am 0)), (1, .int (nI j2)), (2, .int (nI i1)), (3, .int (nI (i1 / 17))), (4, .int (mPth i1)), (5, .int (mWm N o j2 (mWn S q N o j2 (mWd S q N o z.2.2.2.2.2.1 d) i1) (nI (i1 / 17)) (mPth i1) i)), (6, .int (nI i))] := hl
                refine lv_iload hx hb dX10_findWays_94 (lv_at hl 6 rfl) ?_
                refine lv_aload_n hx hb dX10_findWays_96 rfl (lv_at hl 0 rfl) ?_
                refine va_get (D := D) (ci := 10) (v := .int (nI (N_n N))) (C := RX10) (T := TX10) (N := 41) hx hb hts hin10 hown hK.1 hP 0 rfl rfl 0 (by decide) (hts _ fl_X10_94) (fun _ h9 => h9) rfl dX10_findWays_97 ?_
                refine lv_icmp_ge (tgt := 166) hx hb dX10_findWays_100 (by decide) (fun c_18 => ?_) (fun c_18 => ?_)
                · skip
                  have hge : N_n N ≤ i := zge (by have := hI; omega) (by omega) c_18
                  have hmm : (mWm N o j2 (mWn S q N o j2 (mWd S q N o z.2.2.2.2.2.1 d) i1) (nI (i1 / 17)) (mPth i1) (N_n N)) = (mWm N o j2 (mWn S q N o j2 (mWd S q N o z.2.2.2.2.2.1 d) i1) (nI (i1 / 17)) (mPth i1) i) := by rw [show N_n N = i by have := hI; omega]
                  have hl : lv_has ls 7 [(0, .ref (am 0)), (1, .int (nI j2)), (2, .int (nI i1)), (3, .int (nI (i1 / 17))), (4, .int (mPth i1)), (5, .int (mWv S q N o j2 (mWn S q N o j2 (mWd S q N o z.2.2.2.2.2.1 d) i1) i1)), (6, .int (nI i))] := by rw [show (mWv S q N o j2 (mWn S q N o j2 (mWd S q N o z.2.2.2.2.2.1 d) i1) i1) = (mWm N o j2 (mWn S q N o j2 (mWd S q N o z.2.2.2.2.2.1 d) i1) (nI (i1 / 17)) (mPth i1) i) from by unfold mWv; rw [if_pos ⟨Or.inr c_12, c_13⟩]; exact hmm]; exact hl
                  refine lv_aload_n hx hb dX10_findWays_166 rfl (lv_at hl 0 rfl) ?_
                  refine va_get (D := D) (ci := 10) (v := .ref (am 15)) (C := RX10) (T := TX10) (N := 41) hx hb hts hin10 hown hK.1 hP 0 rfl rfl 25 (by decide) (hts _ fl_X10_57) (fun _ h9 => h9) rfl dX10_findWays_167 ?_
                  refine lv_sipush (v := 170) hx hb dX10_findWays_170 (by decide) ?_
                  refine lv_iload_n hx hb dX10_findWays_173 rfl (lv_at hl 1 rfl) ?_
                  refine lv_imul hx hb dX10_findWays_174 ?_
                  rw [show (170 : Int32) * nI j2 = nI (170 * j2) from pk_mul (170) (j2)]
                  refine lv_iload_n hx hb dX10_findWays_175 rfl (lv_at hl 2 rfl) ?_
                  refine lv_iadd hx hb dX10_findWays_176 ?_
                  rw [show nI (170 * j2) + nI i1 = nI (170 * j2 + i1) from nI_add _ _]
                  refine lv_iload hx hb dX10_findWays_177 (lv_at hl 5 rfl) ?_
                  refine z_iast hx hb hK.1 hP hD hS 15 0 rfl rfl (170 * j2 + i1) rfl (show 170 * j2 + i1 < 1360 by omega) (by decide)  dX10_findWays_179 (fun H locs hP hD hS => ?_)
                  have hP : va_P D vwCl (wM am cI cZ N S q o ro t fo k (z.1, z.2.1, z.2.2.1, z.2.2.2.1, z.2.2.2.2.1, (upd (mWn S q N o j2 (mWd S q N o z.2.2.2.2.2.1 d) i1) (170 * j2 + i1) (mWv S q N o j2 (mWn S q N o j2 (mWd S q N o z.2.2.2.2.2.1 d) i1) i1)), z.2.2.2.2.2.2.1, z.2.2.2.2.2.2.2)) H := hP
                  have hD : va_D _ (wM am cI cZ N S q o ro t fo k (z.1, z.2.1, z.2.2.1, z.2.2.2.1, z.2.2.2.2.1, (upd (mWn S q N o j2 (mWd S q N o z.2.2.2.2.2.1 d) i1) (170 * j2 + i1) (mWv S q N o j2 (mWn S q N o j2 (mWd S q N o z.2.2.2.2.2.1 d) i1) i1)), z.2.2.2.2.2.2.1, z.2.2.2.2.2.2.2)) := hD
                  refine lv_iinc (v := (nI (i1 + 1))) (lv' := [(2, .int (nI (i1 + 1))), (0, .ref (am 0)), (1, .int (nI j2)), (3, .int (nI (i1 / 17))), (4, .int (mPth i1)), (5, .int (mWv S q N o j2 (mWn S q N o j2 (mWd S q N o z.2.2.2.2.2.1 d) i1) i1)), (6, .int (nI i))]) hx hb dX10_findWays_180 hl (k := 2) rfl (nI_add i1 1) (by decide) rfl (fun ls hl => ?_)
                  refine lv_goto (tgt := 13) hx hb dX10_findWays_183 (by decide) ?_
                  exact ih_13 (i1 + 1) ls H locs (show (i1 + 1) ≤ 170 from hlt1) (show 170 - (i1 + 1) < 170 - i1 from by omega) (show lv_has ls 7 [(0, .ref (am 0)), (1, .int (nI j2)), (2, .int (nI (i1 + 1)))] from lv_sub hl [1, 2, 0] rfl) hP hD hS
                · skip
                  have hlt : i < N_n N := zlt (by have := hI; omega) (by omega) c_18
                  refine lv_iload_n hx hb dX10_findWays_103 rfl (lv_at hl 1 rfl) ?_
                  refine lv_aload_n hx hb dX10_findWays_104 rfl (lv_at hl 0 rfl) ?_
                  refine va_get (D := D) (ci := 10) (v := .int (nI o.1)) (C := RX10) (T := TX10) (N := 41) hx hb hts hin10 hown hK.1 hP 0 rfl rfl 23 (by decide) (hts _ fl_X10_150) (fun _ h9 => h9) rfl dX10_findWays_105 ?_
                  refine lv_iconst (v := 1) hx hb dX10_findWays_108 (by decide) ?_
                  refine lv_isub hx hb dX10_findWays_109 ?_
                  rw [show nI o.1 - 1 = nI (o.1 - 1) from pk_sub (a := o.1) (b := 1) (by omega)]
                  refine lv_icmp_ge (tgt := 166) hx hb dX10_findWays_110 (by decide) (fun c_19 => ?_) (fun c_19 => ?_)
                  · skip
                    have hmm : (mWm N o j2 (mWn S q N o j2 (mWd S q N o z.2.2.2.2.2.1 d) i1) (nI (i1 / 17)) (mPth i1) (N_n N)) = (mWm N o j2 (mWn S q N o j2 (mWd S q N o z.2.2.2.2.2.1 d) i1) (nI (i1 / 17)) (mPth i1) i) := by rw [mWm_1 hn, mWm_1 hn]
                    have hl : lv_has ls 7 [(0, .ref (am 0)), (1, .int (nI j2)), (2, .int (nI i1)), (3, .int (nI (i1 / 17))), (4, .int (mPth i1)), (5, .int (mWv S q N o j2 (mWn S q N o j2 (mWd S q N o z.2.2.2.2.2.1 d) i1) i1)), (6, .int (nI i))] := by rw [show (mWv S q N o j2 (mWn S q N o j2 (mWd S q N o z.2.2.2.2.2.1 d) i1) i1) = (mWm N o j2 (mWn S q N o j2 (mWd S q N o z.2.2.2.2.2.1 d) i1) (nI (i1 / 17)) (mPth i1) i) from by unfold mWv; rw [if_pos ⟨Or.inr c_12, c_13⟩]; exact hmm]; exact hl
                    refine lv_aload_n hx hb dX10_findWays_166 rfl (lv_at hl 0 rfl) ?_
                    refine va_get (D := D) (ci := 10) (v := .ref (am 15)) (C := RX10) (T := TX10) (N := 41) hx hb hts hin10 hown hK.1 hP 0 rfl rfl 25 (by decide) (hts _ fl_X10_57) (fun _ h9 => h9) rfl dX10_findWays_167 ?_
                    refine lv_sipush (v := 170) hx hb dX10_findWays_170 (by decide) ?_
                    refine lv_iload_n hx hb dX10_findWays_173 rfl (lv_at hl 1 rfl) ?_
                    refine lv_imul hx hb dX10_findWays_174 ?_
                    rw [show (170 : Int32) * nI j2 = nI (170 * j2) from pk_mul (170) (j2)]
                    refine lv_iload_n hx hb dX10_findWays_175 rfl (lv_at hl 2 rfl) ?_
                    refine lv_iadd hx hb dX10_findWays_176 ?_
                    rw [show nI (170 * j2) + nI i1 = nI (170 * j2 + i1) from nI_add _ _]
                    refine lv_iload hx hb dX10_findWays_177 (lv_at hl 5 rfl) ?_
                    refine z_iast hx hb hK.1 hP hD hS 15 0 rfl rfl (170 * j2 + i1) rfl (show 170 * j2 + i1 < 1360 by omega) (by decide)  dX10_findWays_179 (fun H locs hP hD hS => ?_)
                    have hP : va_P D vwCl (wM am cI cZ N S q o ro t fo k (z.1, z.2.1, z.2.2.1, z.2.2.2.1, z.2.2.2.2.1, (upd (mWn S q N o j2 (mWd S q N o z.2.2.2.2.2.1 d) i1) (170 * j2 + i1) (mWv S q N o j2 (mWn S q N o j2 (mWd S q N o z.2.2.2.2.2.1 d) i1) i1)), z.2.2.2.2.2.2.1, z.2.2.2.2.2.2.2)) H := hP
                    have hD : va_D _ (wM am cI cZ N S q o ro t fo k (z.1, z.2.1, z.2.2.1, z.2.2.2.1, z.2.2.2.2.1, (upd (mWn S q N o j2 (mWd S q N o z.2.2.2.2.2.1 d) i1) (170 * j2 + i1) (mWv S q N o j2 (mWn S q N o j2 (mWd S q N o z.2.2.2.2.2.1 d) i1) i1)), z.2.2.2.2.2.2.1, z.2.2.2.2.2.2.2)) := hD
                    refine lv_iinc (v := (nI (i1 + 1))) (lv' := [(2, .int (nI (i1 + 1))), (0, .ref (am 0)), (1, .int (nI j2)), (3, .int (nI (i1 / 17))), (4, .int (mPth i1)), (5, .int (mWv S q N o j2 (mWn S q N o j2 (mWd S q N o z.2.2.2.2.2.1 d) i1) i1)), (6, .int (nI i))]) hx hb dX10_findWays_180 hl (k := 2) rfl (nI_add i1 1) (by decide) rfl (fun ls hl => ?_)
                    refine lv_goto (tgt := 13) hx hb dX10_findWays_183 (by decide) ?_
                    exact ih_13 (i1 + 1) ls H locs (show (i1 + 1) ≤ 170 from hlt1) (show 170 - (i1 + 1) < 170 - i1 from by omega) (show lv_has ls 7 [(0, .ref (am 0)), (1, .int (nI j2)), (2, .int (nI (i1 + 1)))] from lv_sub hl [1, 2, 0] rfl) hP hD hS
                  · skip
                    exact absurd (show nI (o.1 - 1) ≤ nI j2 by rw [nI_leI (by omega) (by omega)]; omega) c_19
