theorem ixl {x : Int32} {n : Nat} (h0 : 0 ≤ x) (h : ¬ nI n ≤ x) (hn : n < 2 ^ 30) : ∃ j : Nat, j < n ∧ x = nI j := by
  obtain ⟨j, hj, e⟩ := ixs h0 (fun h9 => h (Int32.le_of_lt h9)) hn
  refine ⟨j, ?_, e⟩
  by_cases q : j = n
  · exact absurd (by rw [e, q]; exact Int32.le_refl _) h
  · omega
theorem mPth_u {a u : Nat} (h : u < 16) : mPth (17 * a + u) = nI u := by
  unfold mPth; rw [if_neg (by omega), show (17 * a + u) % 17 = u by omega]
def mXonly (N : TN) (S : TS) (q : TQ) (o : TO) (z : TZ) (x y : Int32) : Int32 × TZ := if 0 ≤ x ∧ x ≤ 9 then if 0 ≤ y then ((if nI o.1 ≤ y ∨ ¬ (mWd S q N o z.2.2.2.2.2.1 o.1) (17 * x.toNatClampNeg + 16) = 1 then -1 else nI (mOn N (mWd S q N o z.2.2.2.2.2.1 o.1) x.toNatClampNeg y.toNatClampNeg / 17)), mZg z (mWd S q N o z.2.2.2.2.2.1 o.1)) else (-3, z) else (-2, z)
set_option maxHeartbeats 4000000 in
set_option maxRecDepth 100000 in
theorem c_X10_only (l : Launch) (D : va_G) (cI cZ : ClassId) (am : Nat → Nat) (N : TN) (hN16 : N_n N ≤ 16) (S : TS) (hS24 : S_n S ≤ 24) (q : TQ) (o : TO) (ho8 : o.1 ≤ 8) (ro : TR) (hr10 : ro.1 ≤ 10) (t : TT) (ht6 : t.1 ≤ 6) (fo : TF) (hf5 : fo.1 ≤ 5) (k : TC) (hk8 : k.2.1 ≤ 8) (z : TZ) (hNE : NE N) (x y : Int32) : MI l D cI cZ yX10_only wyX10_only ({ frames := 5, cells := 0, slots := 0, locals := 117 } : Room) [.ref (am 0), .int x, .int y] (wM am cI cZ N S q o ro t fo k z) (fun r u => (r, u) = mXonly N S q o z x y) (fun (u : TZ) => wM am cI cZ N S q o ro t fo k u) := by
  refine Met.ofW (cc := cX10_only) (maxL := 9) (ret := (some .int)) (by decide) rfl ?_
  intro p e s m args below meth c s₁ B hml hv
  obtain ⟨rfl, hK, hP, hD0⟩ := hv
  have hx := B.exec
  have hb := B.bytes
  have hr := B.returns
  have hts0 := atoms_spec (ws := wyX10_only) B.pre
  have hts : ∀ w ∈ big, w.before _ s = true := fun w h => hts0 w (List.mem_cons_of_mem _ h)
  have hown : s.vm.findClass RX10 = some m.cls := findClass_of_methodNamed B.named
  have hlocks := B.notSynchronized
  have hD := D_inW hD0
  have hS : va_S (inW (wM am cI cZ N S q o ro t fo k z)) s.heap s.heap [] := va_S.rf
  have hl := lv_entry ([.ref (am 0), .int x, .int y]) (n := 9) (Nat.le_of_ble_eq_true rfl)
  rw [lg_entry_eq]
  generalize (lg_sl ([.ref (am 0), .int x, .int y]) ++ List.replicate (9 - (lg_sl ([.ref (am 0), .int x, .int y])).length) Slot.unset).toArray = ls at hl ⊢
  have hl : lv_has ls 9 [(0, .ref (am 0)), (1, .int x), (2, .int y)] := hl
  refine lv_iload_n hx hb dX10_only_0 rfl (lv_at hl 1 rfl) ?_
  refine ro_S (As := [.int x]) (rest := []) ⟨hx, hb, hml, hown, hts⟩ (c_X10_isPlace l D cI cZ  x) (cw_X10_101 hts rfl rfl ⟨Nat.le_of_ble_eq_true rfl, Nat.le_of_ble_eq_true rfl⟩) hK P_nil rfl hl.1 rfl (Nat.le_of_ble_eq_true rfl) dX10_only_1 ⟨Nat.zero_le _, Nat.zero_le _⟩ ?_
  refine lv_if_ne (tgt := 10) hx hb dX10_only_4 (by decide) (fun c_1 => ?_) (fun c_1 => ?_)
  · skip
    have c_1 := zb_ne0 c_1
    obtain ⟨j, hj, ej⟩ := ix_of (n := 10) ⟨c_1.1, by rw [show nI 10 - 1 = 9 from by decide]; exact c_1.2⟩ (by omega)
    have hl : lv_has ls 9 [(0, .ref (am 0)), (1, .int (nI j)), (2, .int y)] := by rw [← ej]; exact hl
    rw [ej] at c_1
    refine lv_iload_n hx hb dX10_only_10 rfl (lv_at hl 2 rfl) ?_
    refine lv_if_ge (tgt := 17) hx hb dX10_only_11 (by decide) (fun c_2 => ?_) (fun c_2 => ?_)
    · skip
      have hy0 : 0 ≤ y := c_2
      refine lv_aload_n hx hb dX10_only_17 rfl (lv_at hl 0 rfl) ?_
      refine mv_V2 (As := []) (rest := []) ⟨hx, hb, hml, hown, hts⟩ (c_X10_findWays l D cI cZ am N hN16 S hS24 q o ho8 ro hr10 t ht6 fo hf5 k hk8 z hNE) (cw_X10_159 hts rfl rfl ⟨Nat.le_of_ble_eq_true rfl, Nat.le_of_ble_eq_true rfl⟩) hK hP hD hS 26 rfl [0, 1, 2, 3, 4, 5, 6, 7, 8, 9, 10, 11, 12, 13, 14, 15, 16, 17, 18, 19, 20, 21, 22, 23, 24, 25] [] (fun (_ : Unit) => wM am cI cZ N S q o ro t fo k (mZg z (mWd S q N o z.2.2.2.2.2.1 o.1))) rfl (by decide) (fun u => rfl) [(am 0), (am 1), (am 2), (am 3), (am 4), (am 5), (am 6), (am 7), (am 8), (am 9), (am 10), (am 11), (am 12), (am 13), (am 14), (am 15), (am 16), (am 17), (am 18), (am 19), (am 20), (am 21), (am 22), (am 23), (am 24), (am 25)] rfl (fun u => rfl) ([] : va_W) rfl (fun u => rfl) [(am 0), (am 1), (am 2), (am 3), (am 4), (am 5), (am 6), (am 7), (am 8), (am 9), (am 10), (am 11), (am 12), (am 13), (am 14), (am 15), (am 16), (am 17), (am 18), (am 19), (am 20), (am 21), (am 22), (am 23), (am 24), (am 25)] rfl (fun u => rfl) (by decide) (by decide) (by decide) (ci := 10) rfl rfl rfl hl.1 rfl (Nat.le_of_ble_eq_true rfl) dX10_only_18 ⟨Nat.zero_le _, Nat.zero_le _⟩ (fun u H locs hp hP hD hS => ?_)
      have hP : va_P D vwCl (wM am cI cZ N S q o ro t fo k (z.1, z.2.1, z.2.2.1, z.2.2.2.1, z.2.2.2.2.1, (mWd S q N o z.2.2.2.2.2.1 o.1), z.2.2.2.2.2.2.1, z.2.2.2.2.2.2.2)) H := hP
      have hD : va_D _ (wM am cI cZ N S q o ro t fo k (z.1, z.2.1, z.2.2.1, z.2.2.2.1, z.2.2.2.2.1, (mWd S q N o z.2.2.2.2.2.1 o.1), z.2.2.2.2.2.2.1, z.2.2.2.2.2.2.2)) := hD
      refine lv_iload_n hx hb dX10_only_21 rfl (lv_at hl 2 rfl) ?_
      refine lv_aload_n hx hb dX10_only_22 rfl (lv_at hl 0 rfl) ?_
      refine va_get (D := D) (ci := 10) (v := .int (nI o.1)) (C := RX10) (T := TX10) (N := 41) hx hb hts hin10 hown hK.1 hP 0 rfl rfl 23 (by decide) (hts _ fl_X10_150) (fun _ h9 => h9) rfl dX10_only_23 ?_
      refine lv_icmp_ge (tgt := 45) hx hb dX10_only_26 (by decide) (fun c_3 => ?_) (fun c_3 => ?_)
      · skip
        refine lv_iconst (v := (-1)) hx hb dX10_only_45 (by decide) ?_
        exact mu_iret (v := (-1)) hx hb hr hlocks ((mZg z (mWd S q N o z.2.2.2.2.2.1 o.1))) (by show (((-1) : Int32), (mZg z (mWd S q N o z.2.2.2.2.2.1 o.1))) = mXonly N S q o z x y; unfold mXonly; rw [ej, nI_cl (show j < 2 ^ 31 by omega)]; rw [if_pos c_1, if_pos hy0]; rw [if_pos (Or.inl c_3)]) (hP) hS dX10_only_46
      · skip
        obtain ⟨y9, hy9, ey9⟩ := ixl hy0 c_3 (by omega)
        have hl : lv_has ls 9 [(0, .ref (am 0)), (1, .int (nI j)), (2, .int (nI y9))] := by rw [← ey9]; exact hl
        refine lv_aload_n hx hb dX10_only_29 rfl (lv_at hl 0 rfl) ?_
        refine va_get (D := D) (ci := 10) (v := .ref (am 15)) (C := RX10) (T := TX10) (N := 41) hx hb hts hin10 hown hK.1 hP 0 rfl rfl 25 (by decide) (hts _ fl_X10_57) (fun _ h9 => h9) rfl dX10_only_30 ?_
        refine lv_bipush (v := 17) hx hb dX10_only_33 (by decide) ?_
        refine lv_iload_n hx hb dX10_only_35 rfl (lv_at hl 1 rfl) ?_
        refine lv_imul hx hb dX10_only_36 ?_
        rw [show (17 : Int32) * nI j = nI (17 * j) from pk_mul (17) (j)]
        refine lv_bipush (v := 16) hx hb dX10_only_37 (by decide) ?_
        refine lv_iadd hx hb dX10_only_39 ?_
        rw [show nI (17 * j) + (16 : Int32) = nI (17 * j + 16) from nI_add (17 * j) 16]
        refine z_iald hx hb hK.1 hP 15 0 rfl rfl (17 * j + 16) rfl (show 17 * j + 16 < 1360 by omega) (by decide) dX10_only_40 ?_
        refine lv_iconst (v := 1) hx hb dX10_only_41 (by decide) ?_
        refine lv_icmp_eq (tgt := 47) hx hb dX10_only_42 (by decide) (fun c_4 => ?_) (fun c_4 => ?_)
        · skip
          have h1w : (mWd S q N o z.2.2.2.2.2.1 o.1) (17 * j + 16) = 1 := c_4
          refine lv_iload_n hx hb dX10_only_47 rfl (lv_at hl 1 rfl) ?_
          refine lv_istore_n (lv' := [(3, .int (nI j)), (0, .ref (am 0)), (1, .int (nI j)), (2, .int (nI y9))]) hx hb dX10_only_48 rfl hl (by decide) rfl (fun ls hl => ?_)
          refine lv_iconst (v := (-1)) hx hb dX10_only_49 (by decide) ?_
          refine lv_istore (lv' := [(4, .int (-1)), (3, .int (nI j)), (0, .ref (am 0)), (1, .int (nI j)), (2, .int (nI y9))]) hx hb dX10_only_50 hl (by decide) rfl (fun ls hl => ?_)
          refine lv_iconst (v := 0) hx hb dX10_only_52 (by decide) ?_
          refine lv_istore (lv' := [(5, .int 0), (4, .int (-1)), (3, .int (nI j)), (0, .ref (am 0)), (1, .int (nI j)), (2, .int (nI y9))]) hx hb dX10_only_53 hl (by decide) rfl (fun ls hl => ?_)
          have hl : lv_has ls 9 [(5, .int 0), (4, .int (mPth (17 * j + 16))), (3, .int (nI ((17 * j + 16) / 17))), (0, .ref (am 0)), (1, .int (nI j)), (2, .int (nI y9))] := by rw [show (17 * j + 16) / 17 = j by omega, show mPth (17 * j + 16) = -1 from if_pos (by omega)]; exact hl
          refine w_loop (α := Nat) (fun a9 => a9 ≤ y9 ∧ (mOn N (mWd S q N o z.2.2.2.2.2.1 o.1) j a9) < 170 ∧ 0 < (mWd S q N o z.2.2.2.2.2.1 o.1) (170 * a9 + (mOn N (mWd S q N o z.2.2.2.2.2.1 o.1) j a9))) (fun a9 => y9 - a9) (fun a9 => [(0, .ref (am 0)), (1, .int (nI j)), (2, .int (nI y9)), (3, .int (nI ((mOn N (mWd S q N o z.2.2.2.2.2.1 o.1) j a9) / 17))), (4, .int (mPth (mOn N (mWd S q N o z.2.2.2.2.2.1 o.1) j a9))), (5, .int (nI a9))]) 55 9 ?_ 0 (⟨Nat.zero_le _, show 17 * j + 16 < 170 by omega, by show 0 < (mWd S q N o z.2.2.2.2.2.1 o.1) (170 * 0 + (17 * j + 16)); rw [Nat.mul_zero, Nat.zero_add, h1w]; decide⟩) (show lv_has ls 9 [(0, .ref (am 0)), (1, .int (nI j)), (2, .int (nI y9)), (3, .int (nI ((mOn N (mWd S q N o z.2.2.2.2.2.1 o.1) j 0) / 17))), (4, .int (mPth (mOn N (mWd S q N o z.2.2.2.2.2.1 o.1) j 0))), (5, .int (nI 0))] from lv_sub hl [3, 4, 5, 2, 1, 0] rfl)
          intro a9 ls hI hl ih_55
          obtain ⟨n1, rfl⟩ : ∃ z, z = a9 := ⟨a9, rfl⟩
          have hI : n1 ≤ y9 ∧ (mOn N (mWd S q N o z.2.2.2.2.2.1 o.1) j n1) < 170 ∧ 0 < (mWd S q N o z.2.2.2.2.2.1 o.1) (170 * n1 + (mOn N (mWd S q N o z.2.2.2.2.2.1 o.1) j n1)) := hI
          have hl : lv_has ls 9 [(0, .ref (am 0)), (1, .int (nI j)), (2, .int (nI y9)), (3, .int (nI ((mOn N (mWd S q N o z.2.2.2.2.2.1 o.1) j n1) / 17))), (4, .int (mPth (mOn N (mWd S q N o z.2.2.2.2.2.1 o.1) j n1))), (5, .int (nI n1))] := hl
          obtain ⟨hn1, h170, hps⟩ := hI
          refine lv_iload hx hb dX10_only_55 (lv_at hl 5 rfl) ?_
          refine lv_iload_n hx hb dX10_only_57 rfl (lv_at hl 2 rfl) ?_
          refine lv_icmp_ge (tgt := 163) hx hb dX10_only_58 (by decide) (fun c_5 => ?_) (fun c_5 => ?_)
          · skip
            have ein1 : n1 = y9 := by have h9 : y9 ≤ n1 := zge (by omega) (by omega) c_5; omega
            refine lv_iload_n hx hb dX10_only_163 rfl (lv_at hl 3 rfl) ?_
            exact mu_iret (v := (nI ((mOn N (mWd S q N o z.2.2.2.2.2.1 o.1) j n1) / 17))) hx hb hr hlocks ((mZg z (mWd S q N o z.2.2.2.2.2.1 o.1))) (by show (((nI ((mOn N (mWd S q N o z.2.2.2.2.2.1 o.1) j n1) / 17)) : Int32), (mZg z (mWd S q N o z.2.2.2.2.2.1 o.1))) = mXonly N S q o z x y; unfold mXonly; rw [ej, nI_cl (show j < 2 ^ 31 by omega)]; rw [if_pos c_1, if_pos hy0]; rw [if_neg (fun z9 => z9.elim c_3 (fun y8 => y8 h1w)), ey9, nI_cl (show y9 < 2 ^ 31 by omega), ein1]) (hP) hS dX10_only_164
          · skip
            have hlt1 : n1 < y9 := zlt (by omega) (by omega) c_5
            refine lv_iconst (v := (-1)) hx hb dX10_only_61 (by decide) ?_
            refine lv_istore (lv' := [(6, .int (-1)), (0, .ref (am 0)), (1, .int (nI j)), (2, .int (nI y9)), (3, .int (nI ((mOn N (mWd S q N o z.2.2.2.2.2.1 o.1) j n1) / 17))), (4, .int (mPth (mOn N (mWd S q N o z.2.2.2.2.2.1 o.1) j n1))), (5, .int (nI n1))]) hx hb dX10_only_62 hl (by decide) rfl (fun ls hl => ?_)
            refine lv_iconst (v := 0) hx hb dX10_only_64 (by decide) ?_
            refine lv_istore (lv' := [(7, .int 0), (6, .int (-1)), (0, .ref (am 0)), (1, .int (nI j)), (2, .int (nI y9)), (3, .int (nI ((mOn N (mWd S q N o z.2.2.2.2.2.1 o.1) j n1) / 17))), (4, .int (mPth (mOn N (mWd S q N o z.2.2.2.2.2.1 o.1) j n1))), (5, .int (nI n1))]) hx hb dX10_only_65 hl (by decide) rfl (fun ls hl => ?_)
            refine w_loop (α := Nat) (fun a9 => a9 ≤ N_n N) (fun a9 => N_n N - a9) (fun a9 => [(0, .ref (am 0)), (1, .int (nI j)), (2, .int (nI y9)), (3, .int (nI ((mOn N (mWd S q N o z.2.2.2.2.2.1 o.1) j n1) / 17))), (4, .int (mPth (mOn N (mWd S q N o z.2.2.2.2.2.1 o.1) j n1))), (5, .int (nI n1)), (6, .int (mNx N (mWd S q N o z.2.2.2.2.2.1 o.1) n1 (nI ((mOn N (mWd S q N o z.2.2.2.2.2.1 o.1) j n1) / 17)) (mPth (mOn N (mWd S q N o z.2.2.2.2.2.1 o.1) j n1)) a9)), (7, .int (nI a9))]) 67 9 ?_ 0 (Nat.zero_le _) (show lv_has ls 9 [(0, .ref (am 0)), (1, .int (nI j)), (2, .int (nI y9)), (3, .int (nI ((mOn N (mWd S q N o z.2.2.2.2.2.1 o.1) j n1) / 17))), (4, .int (mPth (mOn N (mWd S q N o z.2.2.2.2.2.1 o.1) j n1))), (5, .int (nI n1)), (6, .int (mNx N (mWd S q N o z.2.2.2.2.2.1 o.1) n1 (nI ((mOn N (mWd S q N o z.2.2.2.2.2.1 o.1) j n1) / 17)) (mPth (mOn N (mWd S q N o z.2.2.2.2.2.1 o.1) j n1)) 0)), (7, .int (nI 0))] from lv_sub hl [2, 3, 4, 5, 6, 7, 1, 0] rfl)
            intro a9 ls hI hl ih_67
            obtain ⟨i, rfl⟩ : ∃ z, z = a9 := ⟨a9, rfl⟩
            have hI : i ≤ N_n N := hI
            have hl : lv_has ls 9 [(0, .ref (am 0)), (1, .int (nI j)), (2, .int (nI y9)), (3, .int (nI ((mOn N (mWd S q N o z.2.2.2.2.2.1 o.1) j n1) / 17))), (4, .int (mPth (mOn N (mWd S q N o z.2.2.2.2.2.1 o.1) j n1))), (5, .int (nI n1)), (6, .int (mNx N (mWd S q N o z.2.2.2.2.2.1 o.1) n1 (nI ((mOn N (mWd S q N o z.2.2.2.2.2.1 o.1) j n1) / 17)) (mPth (mOn N (mWd S q N o z.2.2.2.2.2.1 o.1) j n1)) i)), (7, .int (nI i))] := hl
            refine lv_iload hx hb dX10_only_67 (lv_at hl 7 rfl) ?_
            refine lv_aload_n hx hb dX10_only_69 rfl (lv_at hl 0 rfl) ?_
            refine va_get (D := D) (ci := 10) (v := .int (nI (N_n N))) (C := RX10) (T := TX10) (N := 41) hx hb hts hin10 hown hK.1 hP 0 rfl rfl 0 (by decide) (hts _ fl_X10_94) (fun _ h9 => h9) rfl dX10_only_70 ?_
            refine lv_icmp_ge (tgt := 145) hx hb dX10_only_73 (by decide) (fun c_6 => ?_) (fun c_6 => ?_)
            · skip
              have hge : N_n N ≤ i := zge (by have := hI; omega) (by omega) c_6
              have ein : N_n N = i := by have := hI; omega
              obtain ⟨u, hu, eu, hpos⟩ := mWd_next (S := S) (q := q) (f := z.2.2.2.2.2.1) ho8 hNE hN16 (show n1 + 1 < o.1 by omega) h170 hps
              have hl : lv_has ls 9 [(0, .ref (am 0)), (1, .int (nI j)), (2, .int (nI y9)), (3, .int (nI ((mOn N (mWd S q N o z.2.2.2.2.2.1 o.1) j n1) / 17))), (4, .int (mPth (mOn N (mWd S q N o z.2.2.2.2.2.1 o.1) j n1))), (5, .int (nI n1)), (6, .int (nI u)), (7, .int (nI i))] := by rw [← eu, ein]; exact hl
              refine lv_aload_n hx hb dX10_only_145 rfl (lv_at hl 0 rfl) ?_
              refine lv_iload hx hb dX10_only_146 (lv_at hl 6 rfl) ?_
              refine lv_iload_n hx hb dX10_only_148 rfl (lv_at hl 3 rfl) ?_
              refine ro_V (As := [.int (nI u), .int (nI ((mOn N (mWd S q N o z.2.2.2.2.2.1 o.1) j n1) / 17))]) (rest := []) ⟨hx, hb, hml, hown, hts⟩ (c_X10_otherEnd l D cI cZ am N hN16 S hS24 q o ho8 ro hr10 t ht6 fo hf5 k hk8 (z.1, z.2.1, z.2.2.1, z.2.2.2.1, z.2.2.2.2.1, (mWd S q N o z.2.2.2.2.2.1 o.1), z.2.2.2.2.2.2.1, z.2.2.2.2.2.2.2) u (show u < 16 by omega) (nI ((mOn N (mWd S q N o z.2.2.2.2.2.1 o.1) j n1) / 17))) (cw_X10_143 hts rfl rfl ⟨Nat.le_of_ble_eq_true rfl, Nat.le_of_ble_eq_true rfl⟩) hK hP (ci := 10) rfl rfl rfl hl.1 rfl (Nat.le_of_ble_eq_true rfl) dX10_only_149 ⟨Nat.zero_le _, Nat.zero_le _⟩ ?_
              obtain ⟨a2, ha2, ea2⟩ := mOE_ne hNE hu (nI ((mOn N (mWd S q N o z.2.2.2.2.2.1 o.1) j n1) / 17))
              rw [ea2]
              refine lv_istore_n (lv' := [(3, .int (nI a2)), (0, .ref (am 0)), (1, .int (nI j)), (2, .int (nI y9)), (4, .int (mPth (mOn N (mWd S q N o z.2.2.2.2.2.1 o.1) j n1))), (5, .int (nI n1)), (6, .int (nI u)), (7, .int (nI i))]) hx hb dX10_only_152 rfl hl (by decide) rfl (fun ls hl => ?_)
              refine lv_iload hx hb dX10_only_153 (lv_at hl 6 rfl) ?_
              refine lv_istore (lv' := [(4, .int (nI u)), (3, .int (nI a2)), (0, .ref (am 0)), (1, .int (nI j)), (2, .int (nI y9)), (5, .int (nI n1)), (6, .int (nI u)), (7, .int (nI i))]) hx hb dX10_only_155 hl (by decide) rfl (fun ls hl => ?_)
              have hmo : (mOn N (mWd S q N o z.2.2.2.2.2.1 o.1) j (n1 + 1)) = 17 * a2 + u := by rw [mOn, eu, nI_cl (by omega), ea2, nI_cl (by omega)]
              have hl : lv_has ls 9 [(4, .int (mPth (mOn N (mWd S q N o z.2.2.2.2.2.1 o.1) j (n1 + 1)))), (3, .int (nI ((mOn N (mWd S q N o z.2.2.2.2.2.1 o.1) j (n1 + 1)) / 17))), (0, .ref (am 0)), (1, .int (nI j)), (2, .int (nI y9)), (5, .int (nI n1)), (6, .int (nI u)), (7, .int (nI i))] := by rw [hmo, show (17 * a2 + u) / 17 = a2 by omega, mPth_u (by omega)]; exact hl
              refine lv_iinc (v := (nI (n1 + 1))) (lv' := [(5, .int (nI (n1 + 1))), (4, .int (mPth (mOn N (mWd S q N o z.2.2.2.2.2.1 o.1) j (n1 + 1)))), (3, .int (nI ((mOn N (mWd S q N o z.2.2.2.2.2.1 o.1) j (n1 + 1)) / 17))), (0, .ref (am 0)), (1, .int (nI j)), (2, .int (nI y9)), (6, .int (nI u)), (7, .int (nI i))]) hx hb dX10_only_157 hl (k := 5) rfl (nI_add n1 1) (by decide) rfl (fun ls hl => ?_)
              refine lv_goto (tgt := 55) hx hb dX10_only_160 (by decide) ?_
              exact ih_55 (n1 + 1) ls (show (n1 + 1) ≤ y9 ∧ (mOn N (mWd S q N o z.2.2.2.2.2.1 o.1) j (n1 + 1)) < 170 ∧ 0 < (mWd S q N o z.2.2.2.2.2.1 o.1) (170 * (n1 + 1) + (mOn N (mWd S q N o z.2.2.2.2.2.1 o.1) j (n1 + 1))) from ⟨hlt1, by rw [hmo]; omega, by rw [hmo, ← Nat.add_assoc]; have h9 := hpos; rw [ea2, nI_cl (by omega)] at h9; exact h9⟩) (show y9 - (n1 + 1) < y9 - n1 from by omega) (show lv_has ls 9 [(0, .ref (am 0)), (1, .int (nI j)), (2, .int (nI y9)), (3, .int (nI ((mOn N (mWd S q N o z.2.2.2.2.2.1 o.1) j (n1 + 1)) / 17))), (4, .int (mPth (mOn N (mWd S q N o z.2.2.2.2.2.1 o.1) j (n1 + 1)))), (5, .int (nI (n1 + 1)))] from lv_sub hl [3, 4, 5, 2, 1, 0] rfl)
            · skip
              have hlt : i < N_n N := zlt (by have := hI; omega) (by omega) c_6
              refine lv_aload_n hx hb dX10_only_76 rfl (lv_at hl 0 rfl) ?_
              refine lv_iload_n hx hb dX10_only_77 rfl (lv_at hl 3 rfl) ?_
              refine lv_iload hx hb dX10_only_78 (lv_at hl 4 rfl) ?_
              refine lv_iload hx hb dX10_only_80 (lv_at hl 7 rfl) ?_
              refine ro_V (As := [.int (nI ((mOn N (mWd S q N o z.2.2.2.2.2.1 o.1) j n1) / 17)), .int (mPth (mOn N (mWd S q N o z.2.2.2.2.2.1 o.1) j n1)), .int (nI i)]) (rest := []) ⟨hx, hb, hml, hown, hts⟩ (c_X10_mayGo l D cI cZ am N hN16 S hS24 q o ho8 ro hr10 t ht6 fo hf5 k hk8 (z.1, z.2.1, z.2.2.1, z.2.2.2.1, z.2.2.2.2.1, (mWd S q N o z.2.2.2.2.2.1 o.1), z.2.2.2.2.2.2.1, z.2.2.2.2.2.2.2) (nI ((mOn N (mWd S q N o z.2.2.2.2.2.1 o.1) j n1) / 17)) (mPth (mOn N (mWd S q N o z.2.2.2.2.2.1 o.1) j n1)) (nI i)) (cw_X10_156 hts rfl rfl ⟨Nat.le_of_ble_eq_true rfl, Nat.le_of_ble_eq_true rfl⟩) hK hP (ci := 10) rfl rfl rfl hl.1 rfl (Nat.le_of_ble_eq_true rfl) dX10_only_82 ⟨Nat.zero_le _, Nat.zero_le _⟩ ?_
              refine lv_if_eq (tgt := 122) hx hb dX10_only_85 (by decide) (fun c_7 => ?_) (fun c_7 => ?_)
              · skip
                have c_7 := zb_eq0 c_7
                refine lv_iconst (v := 0) hx hb dX10_only_122 (by decide) ?_
                refine lv_istore (lv' := [(8, .int 0), (0, .ref (am 0)), (1, .int (nI j)), (2, .int (nI y9)), (3, .int (nI ((mOn N (mWd S q N o z.2.2.2.2.2.1 o.1) j n1) / 17))), (4, .int (mPth (mOn N (mWd S q N o z.2.2.2.2.2.1 o.1) j n1))), (5, .int (nI n1)), (6, .int (mNx N (mWd S q N o z.2.2.2.2.2.1 o.1) n1 (nI ((mOn N (mWd S q N o z.2.2.2.2.2.1 o.1) j n1) / 17)) (mPth (mOn N (mWd S q N o z.2.2.2.2.2.1 o.1) j n1)) i)), (7, .int (nI i))]) hx hb dX10_only_123 hl (by decide) rfl (fun ls hl => ?_)
                refine lv_iload hx hb dX10_only_125 (lv_at hl 0 rfl) ?_
                refine lv_if_eq (tgt := 135) hx hb dX10_only_127 (by decide) (fun _ => ?_) (fun c_8 => absurd c_8 (by decide))
                refine lv_iload hx hb dX10_only_135 (lv_at hl 7 rfl) ?_
                refine lv_istore (lv' := [(6, .int (mNx N (mWd S q N o z.2.2.2.2.2.1 o.1) n1 (nI ((mOn N (mWd S q N o z.2.2.2.2.2.1 o.1) j n1) / 17)) (mPth (mOn N (mWd S q N o z.2.2.2.2.2.1 o.1) j n1)) i)), (8, .int 0), (0, .ref (am 0)), (1, .int (nI j)), (2, .int (nI y9)), (3, .int (nI ((mOn N (mWd S q N o z.2.2.2.2.2.1 o.1) j n1) / 17))), (4, .int (mPth (mOn N (mWd S q N o z.2.2.2.2.2.1 o.1) j n1))), (5, .int (nI n1)), (7, .int (nI i))]) hx hb dX10_only_137 hl (by decide) rfl (fun ls hl => ?_)
                have hl : lv_has ls 9 [(6, .int (mNx N (mWd S q N o z.2.2.2.2.2.1 o.1) n1 (nI ((mOn N (mWd S q N o z.2.2.2.2.2.1 o.1) j n1) / 17)) (mPth (mOn N (mWd S q N o z.2.2.2.2.2.1 o.1) j n1)) (i + 1))), (8, .int 0), (0, .ref (am 0)), (1, .int (nI j)), (2, .int (nI y9)), (3, .int (nI ((mOn N (mWd S q N o z.2.2.2.2.2.1 o.1) j n1) / 17))), (4, .int (mPth (mOn N (mWd S q N o z.2.2.2.2.2.1 o.1) j n1))), (5, .int (nI n1)), (7, .int (nI i))] := by rw [show (mNx N (mWd S q N o z.2.2.2.2.2.1 o.1) n1 (nI ((mOn N (mWd S q N o z.2.2.2.2.2.1 o.1) j n1) / 17)) (mPth (mOn N (mWd S q N o z.2.2.2.2.2.1 o.1) j n1)) (i + 1)) = (mNx N (mWd S q N o z.2.2.2.2.2.1 o.1) n1 (nI ((mOn N (mWd S q N o z.2.2.2.2.2.1 o.1) j n1) / 17)) (mPth (mOn N (mWd S q N o z.2.2.2.2.2.1 o.1) j n1)) i) from by rw [mNx, if_neg (fun z9 => c_7 z9.1)]]; exact hl
                refine lv_iinc (v := (nI (i + 1))) (lv' := [(7, .int (nI (i + 1))), (6, .int (mNx N (mWd S q N o z.2.2.2.2.2.1 o.1) n1 (nI ((mOn N (mWd S q N o z.2.2.2.2.2.1 o.1) j n1) / 17)) (mPth (mOn N (mWd S q N o z.2.2.2.2.2.1 o.1) j n1)) (i + 1))), (8, .int 0), (0, .ref (am 0)), (1, .int (nI j)), (2, .int (nI y9)), (3, .int (nI ((mOn N (mWd S q N o z.2.2.2.2.2.1 o.1) j n1) / 17))), (4, .int (mPth (mOn N (mWd S q N o z.2.2.2.2.2.1 o.1) j n1))), (5, .int (nI n1))]) hx hb dX10_only_139 hl (k := 8) rfl (nI_add i 1) (by decide) rfl (fun ls hl => ?_)
                refine lv_goto (tgt := 67) hx hb dX10_only_142 (by decide) ?_
                exact ih_67 (i + 1) ls (show (i + 1) ≤ N_n N from hlt) (show N_n N - (i + 1) < N_n N - i from by omega) (show lv_has ls 9 [(0, .ref (am 0)), (1, .int (nI j)), (2, .int (nI y9)), (3, .int (nI ((mOn N (mWd S q N o z.2.2.2.2.2.1 o.1) j n1) / 17))), (4, .int (mPth (mOn N (mWd S q N o z.2.2.2.2.2.1 o.1) j n1))), (5, .int (nI n1)), (6, .int (mNx N (mWd S q N o z.2.2.2.2.2.1 o.1) n1 (nI ((mOn N (mWd S q N o z.2.2.2.2.2.1 o.1) j n1) / 17)) (mPth (mOn N (mWd S q N o z.2.2.2.2.2.1 o.1) j n1)) (i + 1))), (7, .int (nI (i + 1)))] from lv_sub hl [3, 4, 5, 6, 7, 8, 1, 0] rfl)
              · skip
                have c_7 := zb_ne0 c_7
                refine lv_aload_n hx hb dX10_only_88 rfl (lv_at hl 0 rfl) ?_
                refine va_get (D := D) (ci := 10) (v := .ref (am 15)) (C := RX10) (T := TX10) (N := 41) hx hb hts hin10 hown hK.1 hP 0 rfl rfl 25 (by decide) (hts _ fl_X10_57) (fun _ h9 => h9) rfl dX10_only_89 ?_
                refine lv_sipush (v := 170) hx hb dX10_only_92 (by decide) ?_
                refine lv_iload hx hb dX10_only_95 (lv_at hl 5 rfl) ?_
                refine lv_iconst (v := 1) hx hb dX10_only_97 (by decide) ?_
                refine lv_iadd hx hb dX10_only_98 ?_
                rw [nI_1 n1]
                refine lv_imul hx hb dX10_only_99 ?_
                rw [show (170 : Int32) * nI (n1 + 1) = nI (170 * (n1 + 1)) from pk_mul (170) ((n1 + 1))]
                refine lv_bipush (v := 17) hx hb dX10_only_100 (by decide) ?_
                refine lv_aload_n hx hb dX10_only_102 rfl (lv_at hl 0 rfl) ?_
                refine lv_iload hx hb dX10_only_103 (lv_at hl 7 rfl) ?_
                refine lv_iload_n hx hb dX10_only_105 rfl (lv_at hl 3 rfl) ?_
                refine ro_V (As := [.int (nI i), .int (nI ((mOn N (mWd S q N o z.2.2.2.2.2.1 o.1) j n1) / 17))]) (rest := [.int 17, .int (nI (170 * (n1 + 1))), .ref (am 15)]) ⟨hx, hb, hml, hown, hts⟩ (c_X10_otherEnd l D cI cZ am N hN16 S hS24 q o ho8 ro hr10 t ht6 fo hf5 k hk8 (z.1, z.2.1, z.2.2.1, z.2.2.2.1, z.2.2.2.2.1, (mWd S q N o z.2.2.2.2.2.1 o.1), z.2.2.2.2.2.2.1, z.2.2.2.2.2.2.2) i (show i < 16 by omega) (nI ((mOn N (mWd S q N o z.2.2.2.2.2.1 o.1) j n1) / 17))) (cw_X10_143 hts rfl rfl ⟨Nat.le_of_ble_eq_true rfl, Nat.le_of_ble_eq_true rfl⟩) hK hP (ci := 10) rfl rfl rfl hl.1 rfl (Nat.le_of_ble_eq_true rfl) dX10_only_106 ⟨Nat.zero_le _, Nat.zero_le _⟩ ?_
                obtain ⟨a8, ha8, ea8⟩ := mOE_ne hNE hlt (nI ((mOn N (mWd S q N o z.2.2.2.2.2.1 o.1) j n1) / 17))
                rw [ea8]
                have hcl : (mOE N i (nI ((mOn N (mWd S q N o z.2.2.2.2.2.1 o.1) j n1) / 17))).toNatClampNeg = a8 := by rw [ea8, nI_cl (by omega)]
                refine lv_imul hx hb dX10_only_109 ?_
                rw [show (17 : Int32) * nI a8 = nI (17 * a8) from pk_mul (17) (a8)]
                refine lv_iadd hx hb dX10_only_110 ?_
                rw [show nI (170 * (n1 + 1)) + nI (17 * a8) = nI (170 * (n1 + 1) + 17 * a8) from nI_add _ _]
                refine lv_iload hx hb dX10_only_111 (lv_at hl 7 rfl) ?_
                refine lv_iadd hx hb dX10_only_113 ?_
                rw [show nI (170 * (n1 + 1) + 17 * a8) + nI i = nI (170 * (n1 + 1) + 17 * a8 + i) from nI_add _ _]
                refine z_iald hx hb hK.1 hP 15 0 rfl rfl (170 * (n1 + 1) + 17 * a8 + i) rfl (show 170 * (n1 + 1) + 17 * a8 + i < 1360 by omega) (by decide) dX10_only_114 ?_
                refine lv_if_le (tgt := 122) hx hb dX10_only_115 (by decide) (fun c_9 => ?_) (fun c_9 => ?_)
                · skip
                  refine lv_iconst (v := 0) hx hb dX10_only_122 (by decide) ?_
                  refine lv_istore (lv' := [(8, .int 0), (0, .ref (am 0)), (1, .int (nI j)), (2, .int (nI y9)), (3, .int (nI ((mOn N (mWd S q N o z.2.2.2.2.2.1 o.1) j n1) / 17))), (4, .int (mPth (mOn N (mWd S q N o z.2.2.2.2.2.1 o.1) j n1))), (5, .int (nI n1)), (6, .int (mNx N (mWd S q N o z.2.2.2.2.2.1 o.1) n1 (nI ((mOn N (mWd S q N o z.2.2.2.2.2.1 o.1) j n1) / 17)) (mPth (mOn N (mWd S q N o z.2.2.2.2.2.1 o.1) j n1)) i)), (7, .int (nI i))]) hx hb dX10_only_123 hl (by decide) rfl (fun ls hl => ?_)
                  refine lv_iload hx hb dX10_only_125 (lv_at hl 0 rfl) ?_
                  refine lv_if_eq (tgt := 135) hx hb dX10_only_127 (by decide) (fun _ => ?_) (fun c_10 => absurd c_10 (by decide))
                  refine lv_iload hx hb dX10_only_135 (lv_at hl 7 rfl) ?_
                  refine lv_istore (lv' := [(6, .int (mNx N (mWd S q N o z.2.2.2.2.2.1 o.1) n1 (nI ((mOn N (mWd S q N o z.2.2.2.2.2.1 o.1) j n1) / 17)) (mPth (mOn N (mWd S q N o z.2.2.2.2.2.1 o.1) j n1)) i)), (8, .int 0), (0, .ref (am 0)), (1, .int (nI j)), (2, .int (nI y9)), (3, .int (nI ((mOn N (mWd S q N o z.2.2.2.2.2.1 o.1) j n1) / 17))), (4, .int (mPth (mOn N (mWd S q N o z.2.2.2.2.2.1 o.1) j n1))), (5, .int (nI n1)), (7, .int (nI i))]) hx hb dX10_only_137 hl (by decide) rfl (fun ls hl => ?_)
                  have hl : lv_has ls 9 [(6, .int (mNx N (mWd S q N o z.2.2.2.2.2.1 o.1) n1 (nI ((mOn N (mWd S q N o z.2.2.2.2.2.1 o.1) j n1) / 17)) (mPth (mOn N (mWd S q N o z.2.2.2.2.2.1 o.1) j n1)) (i + 1))), (8, .int 0), (0, .ref (am 0)), (1, .int (nI j)), (2, .int (nI y9)), (3, .int (nI ((mOn N (mWd S q N o z.2.2.2.2.2.1 o.1) j n1) / 17))), (4, .int (mPth (mOn N (mWd S q N o z.2.2.2.2.2.1 o.1) j n1))), (5, .int (nI n1)), (7, .int (nI i))] := by rw [show (mNx N (mWd S q N o z.2.2.2.2.2.1 o.1) n1 (nI ((mOn N (mWd S q N o z.2.2.2.2.2.1 o.1) j n1) / 17)) (mPth (mOn N (mWd S q N o z.2.2.2.2.2.1 o.1) j n1)) (i + 1)) = (mNx N (mWd S q N o z.2.2.2.2.2.1 o.1) n1 (nI ((mOn N (mWd S q N o z.2.2.2.2.2.1 o.1) j n1) / 17)) (mPth (mOn N (mWd S q N o z.2.2.2.2.2.1 o.1) j n1)) i) from by rw [mNx, if_neg (fun z9 => absurd z9.2 (by rw [hcl]; exact Int32.not_lt.mpr c_9))]]; exact hl
                  refine lv_iinc (v := (nI (i + 1))) (lv' := [(7, .int (nI (i + 1))), (6, .int (mNx N (mWd S q N o z.2.2.2.2.2.1 o.1) n1 (nI ((mOn N (mWd S q N o z.2.2.2.2.2.1 o.1) j n1) / 17)) (mPth (mOn N (mWd S q N o z.2.2.2.2.2.1 o.1) j n1)) (i + 1))), (8, .int 0), (0, .ref (am 0)), (1, .int (nI j)), (2, .int (nI y9)), (3, .int (nI ((mOn N (mWd S q N o z.2.2.2.2.2.1 o.1) j n1) / 17))), (4, .int (mPth (mOn N (mWd S q N o z.2.2.2.2.2.1 o.1) j n1))), (5, .int (nI n1))]) hx hb dX10_only_139 hl (k := 8) rfl (nI_add i 1) (by decide) rfl (fun ls hl => ?_)
                  refine lv_goto (tgt := 67) hx hb dX10_only_142 (by decide) ?_
                  exact ih_67 (i + 1) ls (show (i + 1) ≤ N_n N from hlt) (show N_n N - (i + 1) < N_n N - i from by omega) (show lv_has ls 9 [(0, .ref (am 0)), (1, .int (nI j)), (2, .int (nI y9)), (3, .int (nI ((mOn N (mWd S q N o z.2.2.2.2.2.1 o.1) j n1) / 17))), (4, .int (mPth (mOn N (mWd S q N o z.2.2.2.2.2.1 o.1) j n1))), (5, .int (nI n1)), (6, .int (mNx N (mWd S q N o z.2.2.2.2.2.1 o.1) n1 (nI ((mOn N (mWd S q N o z.2.2.2.2.2.1 o.1) j n1) / 17)) (mPth (mOn N (mWd S q N o z.2.2.2.2.2.1 o.1) j n1)) (i + 1))), (7, .int (nI (i + 1)))] from lv_sub hl [3, 4, 5, 6, 7, 8, 1, 0] rfl)
                · skip
                  refine lv_iconst (v := 1) hx hb dX10_only_118 (by decide) ?_
                  refine lv_goto (tgt := 123) hx hb dX10_only_119 (by decide) ?_
                  refine lv_istore (lv' := [(8, .int 1), (0, .ref (am 0)), (1, .int (nI j)), (2, .int (nI y9)), (3, .int (nI ((mOn N (mWd S q N o z.2.2.2.2.2.1 o.1) j n1) / 17))), (4, .int (mPth (mOn N (mWd S q N o z.2.2.2.2.2.1 o.1) j n1))), (5, .int (nI n1)), (6, .int (mNx N (mWd S q N o z.2.2.2.2.2.1 o.1) n1 (nI ((mOn N (mWd S q N o z.2.2.2.2.2.1 o.1) j n1) / 17)) (mPth (mOn N (mWd S q N o z.2.2.2.2.2.1 o.1) j n1)) i)), (7, .int (nI i))]) hx hb dX10_only_123 hl (by decide) rfl (fun ls hl => ?_)
                  refine lv_iload hx hb dX10_only_125 (lv_at hl 0 rfl) ?_
                  refine lv_if_eq (tgt := 135) hx hb dX10_only_127 (by decide) (fun c_11 => absurd c_11 (by decide)) (fun _ => ?_)
                  refine lv_iload hx hb dX10_only_130 (lv_at hl 8 rfl) ?_
                  refine lv_goto (tgt := 137) hx hb dX10_only_132 (by decide) ?_
                  refine lv_istore (lv' := [(6, .int (nI i)), (8, .int 1), (0, .ref (am 0)), (1, .int (nI j)), (2, .int (nI y9)), (3, .int (nI ((mOn N (mWd S q N o z.2.2.2.2.2.1 o.1) j n1) / 17))), (4, .int (mPth (mOn N (mWd S q N o z.2.2.2.2.2.1 o.1) j n1))), (5, .int (nI n1)), (7, .int (nI i))]) hx hb dX10_only_137 hl (by decide) rfl (fun ls hl => ?_)
                  have hl : lv_has ls 9 [(6, .int (mNx N (mWd S q N o z.2.2.2.2.2.1 o.1) n1 (nI ((mOn N (mWd S q N o z.2.2.2.2.2.1 o.1) j n1) / 17)) (mPth (mOn N (mWd S q N o z.2.2.2.2.2.1 o.1) j n1)) (i + 1))), (8, .int 1), (0, .ref (am 0)), (1, .int (nI j)), (2, .int (nI y9)), (3, .int (nI ((mOn N (mWd S q N o z.2.2.2.2.2.1 o.1) j n1) / 17))), (4, .int (mPth (mOn N (mWd S q N o z.2.2.2.2.2.1 o.1) j n1))), (5, .int (nI n1)), (7, .int (nI i))] := by rw [show (mNx N (mWd S q N o z.2.2.2.2.2.1 o.1) n1 (nI ((mOn N (mWd S q N o z.2.2.2.2.2.1 o.1) j n1) / 17)) (mPth (mOn N (mWd S q N o z.2.2.2.2.2.1 o.1) j n1)) (i + 1)) = (nI i) from by rw [mNx, if_pos ⟨c_7, by rw [hcl]; exact Int32.not_le.mp c_9⟩]]; exact hl
                  refine lv_iinc (v := (nI (i + 1))) (lv' := [(7, .int (nI (i + 1))), (6, .int (mNx N (mWd S q N o z.2.2.2.2.2.1 o.1) n1 (nI ((mOn N (mWd S q N o z.2.2.2.2.2.1 o.1) j n1) / 17)) (mPth (mOn N (mWd S q N o z.2.2.2.2.2.1 o.1) j n1)) (i + 1))), (8, .int 1), (0, .ref (am 0)), (1, .int (nI j)), (2, .int (nI y9)), (3, .int (nI ((mOn N (mWd S q N o z.2.2.2.2.2.1 o.1) j n1) / 17))), (4, .int (mPth (mOn N (mWd S q N o z.2.2.2.2.2.1 o.1) j n1))), (5, .int (nI n1))]) hx hb dX10_only_139 hl (k := 8) rfl (nI_add i 1) (by decide) rfl (fun ls hl => ?_)
                  refine lv_goto (tgt := 67) hx hb dX10_only_142 (by decide) ?_
                  exact ih_67 (i + 1) ls (show (i + 1) ≤ N_n N from hlt) (show N_n N - (i + 1) < N_n N - i from by omega) (show lv_has ls 9 [(0, .ref (am 0)), (1, .int (nI j)), (2, .int (nI y9)), (3, .int (nI ((mOn N (mWd S q N o z.2.2.2.2.2.1 o.1) j n1) / 17))), (4, .int (mPth (mOn N (mWd S q N o z.2.2.2.2.2.1 o.1) j n1))), (5, .int (nI n1)), (6, .int (mNx N (mWd S q N o z.2.2.2.2.2.1 o.1) n1 (nI ((mOn N (mWd S q N o z.2.2.2.2.2.1 o.1) j n1) / 17)) (mPth (mOn N (mWd S q N o z.2.2.2.2.2.1 o.1) j n1)) (i + 1))), (7, .int (nI (i + 1)))] from lv_sub hl [3, 4, 5, 6, 7, 8, 1, 0] rfl)
        · skip
          refine lv_iconst (v := (-1)) hx hb dX10_only_45 (by decide) ?_
          exact mu_iret (v := (-1)) hx hb hr hlocks ((mZg z (mWd S q N o z.2.2.2.2.2.1 o.1))) (by show (((-1) : Int32), (mZg z (mWd S q N o z.2.2.2.2.2.1 o.1))) = mXonly N S q o z x y; unfold mXonly; rw [ej, nI_cl (show j < 2 ^ 31 by omega)]; rw [if_pos c_1, if_pos hy0]; rw [if_pos (Or.inr c_4)]) (hP) hS dX10_only_46
    · skip
      refine lv_bipush (v := (-3)) hx hb dX10_only_14 (by decide) ?_
      exact mu_iret (v := (-3)) hx hb hr hlocks (z) (by show (((-3) : Int32), z) = mXonly N S q o z x y; unfold mXonly; rw [ej, nI_cl (show j < 2 ^ 31 by omega)]; (first | rw [if_pos c_1] | rw [if_neg c_1] | skip); (first | rw [if_pos c_2] | rw [if_neg c_2] | skip); (try rfl)) (hP) hS dX10_only_16
  · skip
    have c_1 := zb_eq0 c_1
    refine lv_bipush (v := (-2)) hx hb dX10_only_7 (by decide) ?_
    exact mu_iret (v := (-2)) hx hb hr hlocks (z) (by show (((-2) : Int32), z) = mXonly N S q o z x y; unfold mXonly; (first | rw [if_pos c_1] | rw [if_neg c_1] | skip); (try rfl)) (hP) hS dX10_only_9
