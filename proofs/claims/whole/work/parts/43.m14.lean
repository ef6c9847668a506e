def mXways (N : TN) (S : TS) (q : TQ) (o : TO) (z : TZ) (x : Int32) : Int32 × TZ := if 0 ≤ x ∧ x ≤ 9 then ((if o.1 = 0 then 1 else (mWd S q N o z.2.2.2.2.2.1 o.1) (17 * x.toNatClampNeg + 16)), mZg z (mWd S q N o z.2.2.2.2.2.1 o.1)) else (-2, z)
set_option maxHeartbeats 4000000 in
set_option maxRecDepth 100000 in
theorem c_X10_ways (l : Launch) (D : va_G) (cI cZ : ClassId) (am : Nat → Nat) (N : TN) (hN16 : N_n N ≤ 16) (S : TS) (hS24 : S_n S ≤ 24) (q : TQ) (o : TO) (ho8 : o.1 ≤ 8) (ro : TR) (hr10 : ro.1 ≤ 10) (t : TT) (ht6 : t.1 ≤ 6) (fo : TF) (hf5 : fo.1 ≤ 5) (k : TC) (hk8 : k.2.1 ≤ 8) (z : TZ) (hNE : NE N) (x : Int32) : MI l D cI cZ yX10_ways wyX10_ways ({ frames := 5, cells := 0, slots := 0, locals := 117 } : Room) [.ref (am 0), .int x] (wM am cI cZ N S q o ro t fo k z) (fun r u => (r, u) = mXways N S q o z x) (fun (u : TZ) => wM am cI cZ N S q o ro t fo k u) := by
  refine Met.ofW (cc := cX10_ways) (maxL := 2) (ret := (some .int)) (by decide) rfl ?_
  intro p e s m args below meth c s₁ B hml hv
  obtain ⟨rfl, hK, hP, hD0⟩ := hv
  have hx := B.exec
  have hb := B.bytes
  have hr := B.returns
  have hts0 := atoms_spec (ws := wyX10_ways) B.pre
  have hts : ∀ w ∈ big, w.before _ s = true := fun w h => hts0 w (List.mem_cons_of_mem _ h)
  have hown : s.vm.findClass RX10 = some m.cls := findClass_of_methodNamed B.named
  have hlocks := B.notSynchronized
  have hD := D_inW hD0
  have hS : va_S (inW (wM am cI cZ N S q o ro t fo k z)) s.heap s.heap [] := va_S.rf
  have hl := lv_entry ([.ref (am 0), .int x]) (n := 2) (Nat.le_of_ble_eq_true rfl)
  rw [lg_entry_eq]
  generalize (lg_sl ([.ref (am 0), .int x]) ++ List.replicate (2 - (lg_sl ([.ref (am 0), .int x])).length) Slot.unset).toArray = ls at hl ⊢
  have hl : lv_has ls 2 [(0, .ref (am 0)), (1, .int x)] := hl
  refine lv_iload_n hx hb dX10_ways_0 rfl (lv_at hl 1 rfl) ?_
  refine ro_S (As := [.int x]) (rest := []) ⟨hx, hb, hml, hown, hts⟩ (c_X10_isPlace l D cI cZ  x) (cw_X10_101 hts rfl rfl ⟨Nat.le_of_ble_eq_true rfl, Nat.le_of_ble_eq_true rfl⟩) hK P_nil rfl hl.1 rfl (Nat.le_of_ble_eq_true rfl) dX10_ways_1 ⟨Nat.zero_le _, Nat.zero_le _⟩ ?_
  refine lv_if_ne (tgt := 10) hx hb dX10_ways_4 (by decide) (fun c_1 => ?_) (fun c_1 => ?_)
  · skip
    have c_1 := zb_ne0 c_1
    obtain ⟨j, hj, ej⟩ := ix_of (n := 10) ⟨c_1.1, by rw [show nI 10 - 1 = 9 from by decide]; exact c_1.2⟩ (by omega)
    have hl : lv_has ls 2 [(0, .ref (am 0)), (1, .int (nI j))] := by rw [← ej]; exact hl
    rw [ej] at c_1
    refine lv_aload_n hx hb dX10_ways_10 rfl (lv_at hl 0 rfl) ?_
    refine mv_V2 (As := []) (rest := []) ⟨hx, hb, hml, hown, hts⟩ (c_X10_findWays l D cI cZ am N hN16 S hS24 q o ho8 ro hr10 t ht6 fo hf5 k hk8 z hNE) (cw_X10_159 hts rfl rfl ⟨Nat.le_of_ble_eq_true rfl, Nat.le_of_ble_eq_true rfl⟩) hK hP hD hS 26 rfl [0, 1, 2, 3, 4, 5, 6, 7, 8, 9, 10, 11, 12, 13, 14, 15, 16, 17, 18, 19, 20, 21, 22, 23, 24, 25] [] (fun (_ : Unit) => wM am cI cZ N S q o ro t fo k (mZg z (mWd S q N o z.2.2.2.2.2.1 o.1))) rfl (by decide) (fun u => rfl) [(am 0), (am 1), (am 2), (am 3), (am 4), (am 5), (am 6), (am 7), (am 8), (am 9), (am 10), (am 11), (am 12), (am 13), (am 14), (am 15), (am 16), (am 17), (am 18), (am 19), (am 20), (am 21), (am 22), (am 23), (am 24), (am 25)] rfl (fun u => rfl) ([] : va_W) rfl (fun u => rfl) [(am 0), (am 1), (am 2), (am 3), (am 4), (am 5), (am 6), (am 7), (am 8), (am 9), (am 10), (am 11), (am 12), (am 13), (am 14), (am 15), (am 16), (am 17), (am 18), (am 19), (am 20), (am 21), (am 22), (am 23), (am 24), (am 25)] rfl (fun u => rfl) (by decide) (by decide) (by decide) (ci := 10) rfl rfl rfl hl.1 rfl (Nat.le_of_ble_eq_true rfl) dX10_ways_11 ⟨Nat.zero_le _, Nat.zero_le _⟩ (fun u H locs hp hP hD hS => ?_)
    have hP : va_P D vwCl (wM am cI cZ N S q o ro t fo k (z.1, z.2.1, z.2.2.1, z.2.2.2.1, z.2.2.2.2.1, (mWd S q N o z.2.2.2.2.2.1 o.1), z.2.2.2.2.2.2.1, z.2.2.2.2.2.2.2)) H := hP
    have hD : va_D _ (wM am cI cZ N S q o ro t fo k (z.1, z.2.1, z.2.2.1, z.2.2.2.1, z.2.2.2.2.1, (mWd S q N o z.2.2.2.2.2.1 o.1), z.2.2.2.2.2.2.1, z.2.2.2.2.2.2.2)) := hD
    refine lv_aload_n hx hb dX10_ways_14 rfl (lv_at hl 0 rfl) ?_
    refine va_get (D := D) (ci := 10) (v := .int (nI o.1)) (C := RX10) (T := TX10) (N := 41) hx hb hts hin10 hown hK.1 hP 0 rfl rfl 23 (by decide) (hts _ fl_X10_150) (fun _ h9 => h9) rfl dX10_ways_15 ?_
    refine lv_if_ne (tgt := 25) hx hb dX10_ways_18 (by decide) (fun c_2 => ?_) (fun c_2 => ?_)
    · skip
      have hz0 : ¬ o.1 = 0 := fun q9 => c_2 (by rw [q9]; rfl)
      refine lv_aload_n hx hb dX10_ways_25 rfl (lv_at hl 0 rfl) ?_
      refine va_get (D := D) (ci := 10) (v := .ref (am 15)) (C := RX10) (T := TX10) (N := 41) hx hb hts hin10 hown hK.1 hP 0 rfl rfl 25 (by decide) (hts _ fl_X10_57) (fun _ h9 => h9) rfl dX10_ways_26 ?_
      refine lv_bipush (v := 17) hx hb dX10_ways_29 (by decide) ?_
      refine lv_iload_n hx hb dX10_ways_31 rfl (lv_at hl 1 rfl) ?_
      refine lv_imul hx hb dX10_ways_32 ?_
      rw [show (17 : Int32) * nI j = nI (17 * j) from pk_mul (17) (j)]
      refine lv_bipush (v := 16) hx hb dX10_ways_33 (by decide) ?_
      refine lv_iadd hx hb dX10_ways_35 ?_
      rw [show nI (17 * j) + (16 : Int32) = nI (17 * j + 16) from nI_add (17 * j) 16]
      refine z_iald hx hb hK.1 hP 15 0 rfl rfl (17 * j + 16) rfl (show 17 * j + 16 < 1360 by omega) (by decide) dX10_ways_36 ?_
      exact mu_iret (v := ((mWd S q N o z.2.2.2.2.2.1 o.1) (17 * j + 16))) hx hb hr hlocks ((mZg z (mWd S q N o z.2.2.2.2.2.1 o.1))) (by show ((((mWd S q N o z.2.2.2.2.2.1 o.1) (17 * j + 16)) : Int32), (mZg z (mWd S q N o z.2.2.2.2.2.1 o.1))) = mXways N S q o z x; unfold mXways; rw [ej, nI_cl (by omega)]; (first | rw [if_pos c_1] | rw [if_neg c_1] | skip); (first | rw [if_pos hz0] | rw [if_neg hz0] | skip); (try rfl)) (hP) hS dX10_ways_37
    · skip
      have hz0 : o.1 = 0 := by have h9 := c_2; rw [show (0 : Int32) = nI 0 from rfl, nI_eq (by omega) (by omega)] at h9; exact h9
      refine lv_iconst (v := 1) hx hb dX10_ways_21 (by decide) ?_
      refine lv_goto (tgt := 37) hx hb dX10_ways_22 (by decide) ?_
      exact mu_iret (v := 1) hx hb hr hlocks ((mZg z (mWd S q N o z.2.2.2.2.2.1 o.1))) (by show ((1 : Int32), (mZg z (mWd S q N o z.2.2.2.2.2.1 o.1))) = mXways N S q o z x; unfold mXways; rw [ej, nI_cl (by omega)]; (first | rw [if_pos c_1] | rw [if_neg c_1] | skip); (first | rw [if_pos hz0] | rw [if_neg hz0] | skip); (try rfl)) (hP) hS dX10_ways_37
  · skip
    have c_1 := zb_eq0 c_1
    refine lv_bipush (v := (-2)) hx hb dX10_ways_7 (by decide) ?_
    exact mu_iret (v := (-2)) hx hb hr hlocks (z) (by show (((-2) : Int32), z) = mXways N S q o z x; unfold mXways; (first | rw [if_pos c_1] | rw [if_neg c_1] | skip); (try rfl)) (hP) hS dX10_ways_9
