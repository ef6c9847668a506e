def mKs (s9 : Int32) (S : TS) (i : Nat) : Bool := decide (mB s9 i = true ∧ S_k S i = 2 ∧ S_v S i = 0)
def mLa (s9 : Int32) (S : TS) : Nat → Int32
  | 0 => -1
  | i + 1 => if mB s9 i = true ∧ S_k S i = 0 ∧ (mLa s9 S i = -1 ∨ S_d S (mLa s9 S i).toNatClampNeg ≤ S_d S i) then nI i else mLa s9 S i
def mFr (s9 : Int32) (S : TS) (op : Int32) : Nat → Int32
  | 0 => op
  | i + 1 => if mB s9 i = true ∧ S_k S i = 1 then mFr s9 S op i &&& (((1 : Int32) <<< (S_v S i &&& 31)) ^^^ (-1)) else mFr s9 S op i
def mFo (fr : Int32) : Nat → Int32
  | 0 => -1
  | i + 1 => if fr = (1 : Int32) <<< (nI i &&& 31) then nI i else mFo fr i
theorem mLa_lt {s9 : Int32} {S : TS} : ∀ i, mLa s9 S i = -1 ∨ ∃ j : Nat, j < i ∧ mLa s9 S i = nI j
  | 0 => Or.inl rfl
  | i + 1 => by
    rw [mLa]
    split
    · exact Or.inr ⟨i, by omega, rfl⟩
    · rcases mLa_lt (s9 := s9) (S := S) i with h | ⟨j, h1, h2⟩
      · exact Or.inl h
      · exact Or.inr ⟨j, by omega, h2⟩
def mOp (N : TN) (p k : Int32) : Int32 := mPA N p (N_n N) &&& ((if k = -1 then 0 else (1 : Int32) <<< (k &&& 31)) ^^^ (-1))
def mGo (S : TS) (q : TQ) (N : TN) (p k : Int32) : Int32 :=
  if anyB (mKs (mSe S q N p k (S_n S)) S) (S_n S) = true then -2 else
  if ¬ mLa (mSe S q N p k (S_n S)) S (S_n S) = -1 then S_v S (mLa (mSe S q N p k (S_n S)) S (S_n S)).toNatClampNeg else
  if mOp N p k = 0 then -3 else mFo (mFr (mSe S q N p k (S_n S)) S (mOp N p k) (S_n S)) (N_n N)
set_option maxHeartbeats 4000000 in
set_option maxRecDepth 100000 in
theorem c_X10_goesBy (l : Launch) (D : va_G) (cI cZ : ClassId) (am : Nat → Nat) (N : TN) (hN16 : N_n N ≤ 16) (S : TS) (hS24 : S_n S ≤ 24) (q : TQ) (o : TO) (ho8 : o.1 ≤ 8) (ro : TR) (hr10 : ro.1 ≤ 10) (t : TT) (ht6 : t.1 ≤ 6) (fo : TF) (hf5 : fo.1 ≤ 5) (k : TC) (hk8 : k.2.1 ≤ 8) (z : TZ) (x y : Int32) (hcm : mCm N y) : RO l D cI cZ yX10_goesBy wyX10_goesBy ({ frames := 3, cells := 0, slots := 0, locals := 67 } : Room) [.ref (am 0), .int x, .int y] (wM am cI cZ N S q o ro t fo k z) (mGo S q N x y) := by
  refine Met.ofW (cc := cX10_goesBy) (maxL := 9) (ret := (some .int)) (by decide) rfl ?_
  intro p e s m args below meth c s₁ B hml hv
  obtain ⟨rfl, hK, hP⟩ := hv
  have hx := B.exec
  have hb := B.bytes
  have hr := B.returns
  have hts0 := atoms_spec (ws := wyX10_goesBy) B.pre
  have hts : ∀ w ∈ big, w.before _ s = true := fun w h => hts0 w (List.mem_cons_of_mem _ h)
  have hown : s.vm.findClass RX10 = some m.cls := findClass_of_methodNamed B.named
  have hlocks := B.notSynchronized
  have hl := lv_entry ([.ref (am 0), .int x, .int y]) (n := 9) (Nat.le_of_ble_eq_true rfl)
  rw [lg_entry_eq]
  generalize (lg_sl ([.ref (am 0), .int x, .int y]) ++ List.replicate (9 - (lg_sl ([.ref (am 0), .int x, .int y])).length) Slot.unset).toArray = ls at hl ⊢
  have hl : lv_has ls 9 [(0, .ref (am 0)), (1, .int x), (2, .int y)] := hl
  refine lv_aload_n hx hb dX10_goesBy_0 rfl (lv_at hl 0 rfl) ?_
  refine lv_iload_n hx hb dX10_goesBy_1 rfl (lv_at hl 1 rfl) ?_
  refine lv_iload_n hx hb dX10_goesBy_2 rfl (lv_at hl 2 rfl) ?_
  refine ro_V (As := [.int x, .int y]) (rest := []) ⟨hx, hb, hml, hown, hts⟩ (c_X10_seenBy l D cI cZ am N hN16 S hS24 q o ho8 ro hr10 t ht6 fo hf5 k hk8 z x y hcm) (cw_X10_128 hts rfl rfl ⟨Nat.le_of_ble_eq_true rfl, Nat.le_of_ble_eq_true rfl⟩) hK hP (ci := 10) rfl rfl rfl hl.1 rfl (Nat.le_of_ble_eq_true rfl) dX10_goesBy_3 ⟨Nat.zero_le _, Nat.zero_le _⟩ ?_
  refine lv_istore_n (lv' := [(3, .int (mSe S q N x y (S_n S))), (0, .ref (am 0)), (1, .int x), (2, .int y)]) hx hb dX10_goesBy_6 rfl hl (by decide) rfl (fun ls hl => ?_)
  refine lv_iconst (v := (-1)) hx hb dX10_goesBy_7 (by decide) ?_
  refine lv_istore (lv' := [(4, .int (-1)), (3, .int (mSe S q N x y (S_n S))), (0, .ref (am 0)), (1, .int x), (2, .int y)]) hx hb dX10_goesBy_8 hl (by decide) rfl (fun ls hl => ?_)
  refine lv_aload_n hx hb dX10_goesBy_10 rfl (lv_at hl 2 rfl) ?_
  refine lv_iload_n hx hb dX10_goesBy_11 rfl (lv_at hl 3 rfl) ?_
  refine ro_V (As := [.int x]) (rest := []) ⟨hx, hb, hml, hown, hts⟩ (c_X10_pathsAt l D cI cZ am N hN16 S hS24 q o ho8 ro hr10 t ht6 fo hf5 k hk8 z x) (cw_X10_118 hts rfl rfl ⟨Nat.le_of_ble_eq_true rfl, Nat.le_of_ble_eq_true rfl⟩) hK hP (ci := 10) rfl rfl rfl hl.1 rfl (Nat.le_of_ble_eq_true rfl) dX10_goesBy_12 ⟨Nat.zero_le _, Nat.zero_le _⟩ ?_
  refine w_join (α := Int32) (fun a9 => a9 = (if y = -1 then 0 else (1 : Int32) <<< (y &&& 31))) (fun a9 => [(0, .ref (am 0)), (1, .int x), (2, .int y), (3, .int (mSe S q N x y (S_n S))), (4, .int (-1))]) (fun a9 => [.int a9, .int (mPA N x (N_n N))]) 27 9 (fun hJ_27 => ?_) ?_
  · skip
    refine lv_iload_n hx hb dX10_goesBy_15 rfl (lv_at hl 4 rfl) ?_
    refine lv_iconst (v := (-1)) hx hb dX10_goesBy_16 (by decide) ?_
    refine lv_icmp_ne (tgt := 24) hx hb dX10_goesBy_17 (by decide) (fun c_1 => ?_) (fun c_1 => ?_)
    · skip
      refine lv_iconst (v := 1) hx hb dX10_goesBy_24 (by decide) ?_
      refine lv_iload_n hx hb dX10_goesBy_25 rfl (lv_at hl 4 rfl) ?_
      refine lv_ishl hx hb dX10_goesBy_26 ?_
      exact hJ_27 (1 <<< (y &&& 31)) ls (show (1 <<< (y &&& 31)) = (if y = -1 then 0 else (1 : Int32) <<< (y &&& 31)) from by first | exact (if_pos c_1).symm | exact (if_neg c_1).symm) (show lv_has ls 9 [(0, .ref (am 0)), (1, .int x), (2, .int y), (3, .int (mSe S q N x y (S_n S))), (4, .int (-1))] from lv_sub hl [2, 3, 4, 1, 0] rfl)
    · skip
      refine lv_iconst (v := 0) hx hb dX10_goesBy_20 (by decide) ?_
      refine lv_goto (tgt := 27) hx hb dX10_goesBy_21 (by decide) ?_
      exact hJ_27 0 ls (show 0 = (if y = -1 then 0 else (1 : Int32) <<< (y &&& 31)) from by first | exact (if_pos c_1).symm | exact (if_neg c_1).symm) (show lv_has ls 9 [(0, .ref (am 0)), (1, .int x), (2, .int y), (3, .int (mSe S q N x y (S_n S))), (4, .int (-1))] from lv_sub hl [2, 3, 4, 1, 0] rfl)
  · skip
    intro a9 ls hI hl
    obtain ⟨u, rfl⟩ : ∃ z, z = a9 := ⟨a9, rfl⟩
    have hI : u = (if y = -1 then 0 else (1 : Int32) <<< (y &&& 31)) := hI
    subst hI
    have hl : lv_has ls 9 [(0, .ref (am 0)), (1, .int x), (2, .int y), (3, .int (mSe S q N x y (S_n S))), (4, .int (-1))] := hl
    refine lv_iconst (v := (-1)) hx hb dX10_goesBy_27 (by decide) ?_
    refine lv_ixor hx hb dX10_goesBy_28 ?_
    refine lv_iand hx hb dX10_goesBy_29 ?_
    refine lv_istore (lv' := [(5, .int ((mPA N x (N_n N)) &&& ((if y = -1 then 0 else (1 : Int32) <<< (y &&& 31)) ^^^ (-1)))), (0, .ref (am 0)), (1, .int x), (2, .int y), (3, .int (mSe S q N x y (S_n S))), (4, .int (-1))]) hx hb dX10_goesBy_30 hl (by decide) rfl (fun ls hl => ?_)
    have hl : lv_has ls 9 [(5, .int (mOp N x y)), (0, .ref (am 0)), (1, .int x), (2, .int y), (3, .int (mSe S q N x y (S_n S))), (4, .int (-1))] := hl
    refine lv_iload hx hb dX10_goesBy_32 (lv_at hl 0 rfl) ?_
    refine lv_istore (lv' := [(6, .int (mOp N x y)), (5, .int (mOp N x y)), (0, .ref (am 0)), (1, .int x), (2, .int y), (3, .int (mSe S q N x y (S_n S))), (4, .int (-1))]) hx hb dX10_goesBy_34 hl (by decide) rfl (fun ls hl => ?_)
    refine lv_iconst (v := 0) hx hb dX10_goesBy_36 (by decide) ?_
    refine lv_istore (lv' := [(7, .int 0), (6, .int (mOp N x y)), (5, .int (mOp N x y)), (0, .ref (am 0)), (1, .int x), (2, .int y), (3, .int (mSe S q N x y (S_n S))), (4, .int (-1))]) hx hb dX10_goesBy_37 hl (by decide) rfl (fun ls hl => ?_)
    refine w_loop (α := Nat) (fun a9 => a9 ≤ S_n S ∧ anyB (mKs (mSe S q N x y (S_n S)) S) a9 = false) (fun a9 => S_n S - a9) (fun a9 => [(0, .ref (am 0)), (1, .int x), (2, .int y), (3, .int (mSe S q N x y (S_n S))), (4, .int (mLa (mSe S q N x y (S_n S)) S a9)), (5, .int (mOp N x y)), (6, .int (mFr (mSe S q N x y (S_n S)) S (mOp N x y) a9)), (7, .int (nI a9))]) 39 9 ?_ 0 (⟨Nat.zero_le _, rfl⟩) (show lv_has ls 9 [(0, .ref (am 0)), (1, .int x), (2, .int y), (3, .int (mSe S q N x y (S_n S))), (4, .int (mLa (mSe S q N x y (S_n S)) S 0)), (5, .int (mOp N x y)), (6, .int (mFr (mSe S q N x y (S_n S)) S (mOp N x y) 0)), (7, .int (nI 0))] from lv_sub hl [3, 4, 5, 6, 7, 2, 1, 0] rfl)
    intro a9 ls hI hl ih_39
    obtain ⟨i, rfl⟩ : ∃ z, z = a9 := ⟨a9, rfl⟩
    have hI : i ≤ S_n S ∧ anyB (mKs (mSe S q N x y (S_n S)) S) i = false := hI
    have hl : lv_has ls 9 [(0, .ref (am 0)), (1, .int x), (2, .int y), (3, .int (mSe S q N x y (S_n S))), (4, .int (mLa (mSe S q N x y (S_n S)) S i)), (5, .int (mOp N x y)), (6, .int (mFr (mSe S q N x y (S_n S)) S (mOp N x y) i)), (7, .int (nI i))] := hl
    have hI0 := hI
    refine lv_iload hx hb dX10_goesBy_39 (lv_at hl 7 rfl) ?_
    refine lv_aload_n hx hb dX10_goesBy_41 rfl (lv_at hl 0 rfl) ?_
    refine va_get (D := D) (ci := 10) (v := .int (nI (S_n S))) (C := RX10) (T := TX10) (N := 41) hx hb hts hin10 hown hK.1 hP 0 rfl rfl 6 (by decide) (hts _ fl_X10_115) (fun _ h9 => h9) rfl dX10_goesBy_42 ?_
    refine lv_icmp_ge (tgt := 162) hx hb dX10_goesBy_45 (by decide) (fun c_2 => ?_) (fun c_2 => ?_)
    · skip
      have hge : S_n S ≤ i := zge (by have := hI.1; have := hS24; omega) (by have := hS24; omega) c_2
      have ein : S_n S = i := by have := hI.1; omega
      have hst9 : anyB (mKs (mSe S q N x y (S_n S)) S) (S_n S) = false := by have h9 := hI.2; rw [← ein] at h9; exact h9
      have hl : lv_has ls 9 [(0, .ref (am 0)), (1, .int x), (2, .int y), (3, .int (mSe S q N x y (S_n S))), (4, .int (mLa (mSe S q N x y (S_n S)) S (S_n S))), (5, .int (mOp N x y)), (6, .int (mFr (mSe S q N x y (S_n S)) S (mOp N x y) (S_n S))), (7, .int (nI (S_n S)))] := by have h9 := hl; rw [← ein] at h9; exact h9
      refine lv_iload hx hb dX10_goesBy_162 (lv_at hl 4 rfl) ?_
      refine lv_iconst (v := (-1)) hx hb dX10_goesBy_164 (by decide) ?_
      refine lv_icmp_eq (tgt := 176) hx hb dX10_goesBy_165 (by decide) (fun c_3 => ?_) (fun c_3 => ?_)
      · skip
        refine lv_iload hx hb dX10_goesBy_176 (lv_at hl 5 rfl) ?_
        refine lv_if_ne (tgt := 184) hx hb dX10_goesBy_178 (by decide) (fun c_4 => ?_) (fun c_4 => ?_)
        · skip
          refine lv_iconst (v := (-1)) hx hb dX10_goesBy_184 (by decide) ?_
          refine lv_istore (lv' := [(7, .int (-1)), (0, .ref (am 0)), (1, .int x), (2, .int y), (3, .int (mSe S q N x y (S_n S))), (4, .int (mLa (mSe S q N x y (S_n S)) S (S_n S))), (5, .int (mOp N x y)), (6, .int (mFr (mSe S q N x y (S_n S)) S (mOp N x y) (S_n S)))]) hx hb dX10_goesBy_185 hl (by decide) rfl (fun ls hl => ?_)
          refine lv_iconst (v := 0) hx hb dX10_goesBy_187 (by decide) ?_
          refine lv_istore (lv' := [(8, .int 0), (7, .int (-1)), (0, .ref (am 0)), (1, .int x), (2, .int y), (3, .int (mSe S q N x y (S_n S))), (4, .int (mLa (mSe S q N x y (S_n S)) S (S_n S))), (5, .int (mOp N x y)), (6, .int (mFr (mSe S q N x y (S_n S)) S (mOp N x y) (S_n S)))]) hx hb dX10_goesBy_188 hl (by decide) rfl (fun ls hl => ?_)
          refine w_loop (α := Nat) (fun a9 => a9 ≤ N_n N) (fun a9 => N_n N - a9) (fun a9 => [(0, .ref (am 0)), (6, .int (mFr (mSe S q N x y (S_n S)) S (mOp N x y) (S_n S))), (7, .int (mFo (mFr (mSe S q N x y (S_n S)) S (mOp N x y) (S_n S)) a9)), (8, .int (nI a9))]) 190 9 ?_ 0 (Nat.zero_le _) (show lv_has ls 9 [(0, .ref (am 0)), (6, .int (mFr (mSe S q N x y (S_n S)) S (mOp N x y) (S_n S))), (7, .int (mFo (mFr (mSe S q N x y (S_n S)) S (mOp N x y) (S_n S)) 0)), (8, .int (nI 0))] from lv_sub hl [2, 8, 1, 0] rfl)
          intro a9 ls hI hl ih_190
          obtain ⟨u, rfl⟩ : ∃ z, z = a9 := ⟨a9, rfl⟩
          have hI : u ≤ N_n N := hI
          have hl : lv_has ls 9 [(0, .ref (am 0)), (6, .int (mFr (mSe S q N x y (S_n S)) S (mOp N x y) (S_n S))), (7, .int (mFo (mFr (mSe S q N x y (S_n S)) S (mOp N x y) (S_n S)) u)), (8, .int (nI u))] := hl
          refine lv_iload hx hb dX10_goesBy_190 (lv_at hl 3 rfl) ?_
          refine lv_aload_n hx hb dX10_goesBy_192 rfl (lv_at hl 0 rfl) ?_
          refine va_get (D := D) (ci := 10) (v := .int (nI (N_n N))) (C := RX10) (T := TX10) (N := 41) hx hb hts hin10 hown hK.1 hP 0 rfl rfl 0 (by decide) (hts _ fl_X10_94) (fun _ h9 => h9) rfl dX10_goesBy_193 ?_
          refine lv_icmp_ge (tgt := 223) hx hb dX10_goesBy_196 (by decide) (fun c_5 => ?_) (fun c_5 => ?_)
          · skip
            have hge : N_n N ≤ u := zge (by have := hI; have := hN16; omega) (by have := hN16; omega) c_5
            refine lv_iload hx hb dX10_goesBy_223 (lv_at hl 2 rfl) ?_
            exact ro_iret hx hb hr hlocks (by unfold mGo; rw [if_neg (by rw [hst9]; decide), if_neg (fun z9 => z9 c_3), if_neg c_4, show N_n N = u by omega]) dX10_goesBy_225
          · skip
            have hlt : u < N_n N := zlt (by have := hI; have := hN16; omega) (by have := hN16; omega) c_5
            refine lv_iload hx hb dX10_goesBy_199 (lv_at hl 1 rfl) ?_
            refine lv_iconst (v := 1) hx hb dX10_goesBy_201 (by decide) ?_
            refine lv_iload hx hb dX10_goesBy_202 (lv_at hl 3 rfl) ?_
            refine lv_ishl hx hb dX10_goesBy_204 ?_
            refine lv_icmp_ne (tgt := 213) hx hb dX10_goesBy_205 (by decide) (fun c_6 => ?_) (fun c_6 => ?_)
            · skip
              refine lv_iload hx hb dX10_goesBy_213 (lv_at hl 2 rfl) ?_
              refine lv_istore (lv' := [(7, .int (mFo (mFr (mSe S q N x y (S_n S)) S (mOp N x y) (S_n S)) u)), (0, .ref (am 0)), (6, .int (mFr (mSe S q N x y (S_n S)) S (mOp N x y) (S_n S))), (8, .int (nI u))]) hx hb dX10_goesBy_215 hl (by decide) rfl (fun ls hl => ?_)
              have hl : lv_has ls 9 [(7, .int (mFo (mFr (mSe S q N x y (S_n S)) S (mOp N x y) (S_n S)) (u + 1))), (0, .ref (am 0)), (6, .int (mFr (mSe S q N x y (S_n S)) S (mOp N x y) (S_n S))), (8, .int (nI u))] := by rw [show mFo (mFr (mSe S q N x y (S_n S)) S (mOp N x y) (S_n S)) (u + 1) = (mFo (mFr (mSe S q N x y (S_n S)) S (mOp N x y) (S_n S)) u) from by rw [mFo]; (first | rw [if_pos c_6] | rw [if_neg c_6])]; exact hl
              refine lv_iinc (v := (nI (u + 1))) (lv' := [(8, .int (nI (u + 1))), (7, .int (mFo (mFr (mSe S q N x y (S_n S)) S (mOp N x y) (S_n S)) (u + 1))), (0, .ref (am 0)), (6, .int (mFr (mSe S q N x y (S_n S)) S (mOp N x y) (S_n S)))]) hx hb dX10_goesBy_217 hl (k := 3) rfl (nI_add u 1) (by decide) rfl (fun ls hl => ?_)
              refine lv_goto (tgt := 190) hx hb dX10_goesBy_220 (by decide) ?_
              exact ih_190 (u + 1) ls (show (u + 1) ≤ N_n N from hlt) (show N_n N - (u + 1) < N_n N - u from by omega) (show lv_has ls 9 [(0, .ref (am 0)), (6, .int (mFr (mSe S q N x y (S_n S)) S (mOp N x y) (S_n S))), (7, .int (mFo (mFr (mSe S q N x y (S_n S)) S (mOp N x y) (S_n S)) (u + 1))), (8, .int (nI (u + 1)))] from lv_sub hl [2, 3, 1, 0] rfl)
            · skip
              refine lv_iload hx hb dX10_goesBy_208 (lv_at hl 3 rfl) ?_
              refine lv_goto (tgt := 215) hx hb dX10_goesBy_210 (by decide) ?_
              refine lv_istore (lv' := [(7, .int (nI u)), (0, .ref (am 0)), (6, .int (mFr (mSe S q N x y (S_n S)) S (mOp N x y) (S_n S))), (8, .int (nI u))]) hx hb dX10_goesBy_215 hl (by decide) rfl (fun ls hl => ?_)
              have hl : lv_has ls 9 [(7, .int (mFo (mFr (mSe S q N x y (S_n S)) S (mOp N x y) (S_n S)) (u + 1))), (0, .ref (am 0)), (6, .int (mFr (mSe S q N x y (S_n S)) S (mOp N x y) (S_n S))), (8, .int (nI u))] := by rw [show mFo (mFr (mSe S q N x y (S_n S)) S (mOp N x y) (S_n S)) (u + 1) = (nI u) from by rw [mFo]; (first | rw [if_pos c_6] | rw [if_neg c_6])]; exact hl
              refine lv_iinc (v := (nI (u + 1))) (lv' := [(8, .int (nI (u + 1))), (7, .int (mFo (mFr (mSe S q N x y (S_n S)) S (mOp N x y) (S_n S)) (u + 1))), (0, .ref (am 0)), (6, .int (mFr (mSe S q N x y (S_n S)) S (mOp N x y) (S_n S)))]) hx hb dX10_goesBy_217 hl (k := 3) rfl (nI_add u 1) (by decide) rfl (fun ls hl => ?_)
              refine lv_goto (tgt := 190) hx hb dX10_goesBy_220 (by decide) ?_
              exact ih_190 (u + 1) ls (show (u + 1) ≤ N_n N from hlt) (show N_n N - (u + 1) < N_n N - u from by omega) (show lv_has ls 9 [(0, .ref (am 0)), (6, .int (mFr (mSe S q N x y (S_n S)) S (mOp N x y) (S_n S))), (7, .int (mFo (mFr (mSe S q N x y (S_n S)) S (mOp N x y) (S_n S)) (u + 1))), (8, .int (nI (u + 1)))] from lv_sub hl [2, 3, 1, 0] rfl)
        · skip
          refine lv_bipush (v := (-3)) hx hb dX10_goesBy_181 (by decide) ?_
          exact ro_iret hx hb hr hlocks (by unfold mGo; rw [if_neg (by rw [hst9]; decide), if_neg (fun z9 => z9 c_3), if_pos c_4]) dX10_goesBy_183
      · skip
        obtain ⟨jj, hjj, ejj⟩ := (mLa_lt (s9 := (mSe S q N x y (S_n S))) (S := S) (S_n S)).resolve_left c_3
        refine lv_aload_n hx hb dX10_goesBy_168 rfl (lv_at hl 0 rfl) ?_
        refine va_get (D := D) (ci := 10) (v := .ref (am 6)) (C := RX10) (T := TX10) (N := 41) hx hb hts hin10 hown hK.1 hP 0 rfl rfl 9 (by decide) (hts _ fl_X10_25) (fun _ h9 => h9) rfl dX10_goesBy_169 ?_
        refine lv_iload hx hb dX10_goesBy_172 (lv_at hl 4 rfl) ?_
        refine z_iald hx hb hK.1 hP 6 0 rfl rfl jj ejj (show jj < 24 by have := hS24; omega) (by decide) dX10_goesBy_174 ?_
        exact ro_iret hx hb hr hlocks (by unfold mGo; rw [if_neg (by rw [hst9]; decide), if_pos c_3, ejj, nI_cl (by omega)]) dX10_goesBy_175
    · skip
      have hlt : i < S_n S := zlt (by have := hI.1; have := hS24; omega) (by have := hS24; omega) c_2
      refine lv_iload_n hx hb dX10_goesBy_48 rfl (lv_at hl 3 rfl) ?_
      refine lv_iload hx hb dX10_goesBy_49 (lv_at hl 7 rfl) ?_
      refine lv_ishr hx hb dX10_goesBy_51 ?_
      refine lv_iconst (v := 1) hx hb dX10_goesBy_52 (by decide) ?_
      refine lv_iand hx hb dX10_goesBy_53 ?_
      refine lv_iconst (v := 1) hx hb dX10_goesBy_54 (by decide) ?_
      refine lv_icmp_ne (tgt := 156) hx hb dX10_goesBy_55 (by decide) (fun c_7 => ?_) (fun c_7 => ?_)
      · skip
        have hbit : ¬ mB (mSe S q N x y (S_n S)) i = true := by unfold mB; rw [decide_eq_true_eq]; exact c_7
        have hl : lv_has ls 9 [(0, .ref (am 0)), (1, .int x), (2, .int y), (3, .int (mSe S q N x y (S_n S))), (4, .int (mLa (mSe S q N x y (S_n S)) S (i + 1))), (5, .int (mOp N x y)), (6, .int (mFr (mSe S q N x y (S_n S)) S (mOp N x y) (i + 1))), (7, .int (nI i))] := by rw [show (mLa (mSe S q N x y (S_n S)) S (i + 1)) = (mLa (mSe S q N x y (S_n S)) S i) from by rw [mLa, if_neg (fun z9 => hbit z9.1)], show (mFr (mSe S q N x y (S_n S)) S (mOp N x y) (i + 1)) = (mFr (mSe S q N x y (S_n S)) S (mOp N x y) i) from by rw [mFr, if_neg (fun z9 => hbit z9.1)]]; exact hl
        refine lv_iinc (v := (nI (i + 1))) (lv' := [(7, .int (nI (i + 1))), (0, .ref (am 0)), (1, .int x), (2, .int y), (3, .int (mSe S q N x y (S_n S))), (4, .int (mLa (mSe S q N x y (S_n S)) S (i + 1))), (5, .int (mOp N x y)), (6, .int (mFr (mSe S q N x y (S_n S)) S (mOp N x y) (i + 1)))]) hx hb dX10_goesBy_156 hl (k := 7) rfl (nI_add i 1) (by decide) rfl (fun ls hl => ?_)
        refine lv_goto (tgt := 39) hx hb dX10_goesBy_159 (by decide) ?_
        exact ih_39 (i + 1) ls (show (i + 1) ≤ S_n S ∧ anyB (mKs (mSe S q N x y (S_n S)) S) (i + 1) = false from ⟨hlt, by rw [anyB, hI0.2, Bool.false_or]; unfold mKs; rw [decide_eq_false_iff_not]; exact fun z9 => hbit z9.1⟩) (show S_n S - (i + 1) < S_n S - i from by omega) (show lv_has ls 9 [(0, .ref (am 0)), (1, .int x), (2, .int y), (3, .int (mSe S q N x y (S_n S))), (4, .int (mLa (mSe S q N x y (S_n S)) S (i + 1))), (5, .int (mOp N x y)), (6, .int (mFr (mSe S q N x y (S_n S)) S (mOp N x y) (i + 1))), (7, .int (nI (i + 1)))] from lv_sub hl [1, 2, 3, 4, 5, 6, 7, 0] rfl)
      · skip
        have hbit : mB (mSe S q N x y (S_n S)) i = true := by unfold mB; exact decide_eq_true c_7
        refine lv_aload_n hx hb dX10_goesBy_58 rfl (lv_at hl 0 rfl) ?_
        refine va_get (D := D) (ci := 10) (v := .ref (am 5)) (C := RX10) (T := TX10) (N := 41) hx hb hts hin10 hown hK.1 hP 0 rfl rfl 8 (by decide) (hts _ fl_X10_22) (fun _ h9 => h9) rfl dX10_goesBy_59 ?_
        refine lv_iload hx hb dX10_goesBy_62 (lv_at hl 7 rfl) ?_
        refine z_iald hx hb hK.1 hP 5 0 rfl rfl i rfl (show i < 24 by have := hS24; omega) (by decide) dX10_goesBy_64 ?_
        refine lv_iconst (v := 2) hx hb dX10_goesBy_65 (by decide) ?_
        refine lv_icmp_ne (tgt := 82) hx hb dX10_goesBy_66 (by decide) (fun c_8 => ?_) (fun c_8 => ?_)
        · skip
          refine w_join (α := Int32) (fun a9 => a9 = (mLa (mSe S q N x y (S_n S)) S (i + 1))) (fun a9 => [(0, .ref (am 0)), (1, .int x), (2, .int y), (3, .int (mSe S q N x y (S_n S))), (4, .int (mLa (mSe S q N x y (S_n S)) S i)), (5, .int (mOp N x y)), (6, .int (mFr (mSe S q N x y (S_n S)) S (mOp N x y) i)), (7, .int (nI i))]) (fun a9 => [.int a9]) 122 9 (fun hJ_122 => ?_) ?_
          · skip
            refine lv_aload_n hx hb dX10_goesBy_82 rfl (lv_at hl 0 rfl) ?_
            refine va_get (D := D) (ci := 10) (v := .ref (am 5)) (C := RX10) (T := TX10) (N := 41) hx hb hts hin10 hown hK.1 hP 0 rfl rfl 8 (by decide) (hts _ fl_X10_22) (fun _ h9 => h9) rfl dX10_goesBy_83 ?_
            refine lv_iload hx hb dX10_goesBy_86 (lv_at hl 7 rfl) ?_
            refine z_iald hx hb hK.1 hP 5 0 rfl rfl i rfl (show i < 24 by have := hS24; omega) (by decide) dX10_goesBy_88 ?_
            refine lv_if_ne (tgt := 120) hx hb dX10_goesBy_89 (by decide) (fun c_9 => ?_) (fun c_9 => ?_)
            · skip
              refine lv_iload hx hb dX10_goesBy_120 (lv_at hl 4 rfl) ?_
              exact hJ_122 (mLa (mSe S q N x y (S_n S)) S i) ls (show (mLa (mSe S q N x y (S_n S)) S i) = (mLa (mSe S q N x y (S_n S)) S (i + 1)) from by rw [mLa]; simp [c_8, c_9, hbit, ← Int32.not_le]) (show lv_has ls 9 [(0, .ref (am 0)), (1, .int x), (2, .int y), (3, .int (mSe S q N x y (S_n S))), (4, .int (mLa (mSe S q N x y (S_n S)) S i)), (5, .int (mOp N x y)), (6, .int (mFr (mSe S q N x y (S_n S)) S (mOp N x y) i)), (7, .int (nI i))] from lv_sub hl [0, 1, 2, 3, 4, 5, 6, 7] rfl)
            · skip
              refine lv_iload hx hb dX10_goesBy_92 (lv_at hl 4 rfl) ?_
              refine lv_iconst (v := (-1)) hx hb dX10_goesBy_94 (by decide) ?_
              refine lv_icmp_eq (tgt := 115) hx hb dX10_goesBy_95 (by decide) (fun c_10 => ?_) (fun c_10 => ?_)
              · skip
                refine lv_iload hx hb dX10_goesBy_115 (lv_at hl 7 rfl) ?_
                refine lv_goto (tgt := 122) hx hb dX10_goesBy_117 (by decide) ?_
                exact hJ_122 (nI i) ls (show (nI i) = (mLa (mSe S q N x y (S_n S)) S (i + 1)) from by rw [mLa]; simp [c_8, c_9, c_10, hbit, ← Int32.not_le]) (show lv_has ls 9 [(0, .ref (am 0)), (1, .int x), (2, .int y), (3, .int (mSe S q N x y (S_n S))), (4, .int (mLa (mSe S q N x y (S_n S)) S i)), (5, .int (mOp N x y)), (6, .int (mFr (mSe S q N x y (S_n S)) S (mOp N x y) i)), (7, .int (nI i))] from lv_sub hl [0, 1, 2, 3, 4, 5, 6, 7] rfl)
              · skip
                obtain ⟨jj, hjj, ejj⟩ := (mLa_lt (s9 := (mSe S q N x y (S_n S))) (S := S) i).resolve_left c_10
                have hcl : (mLa (mSe S q N x y (S_n S)) S i).toNatClampNeg = jj := by rw [ejj, nI_cl (by omega)]
                refine lv_aload_n hx hb dX10_goesBy_98 rfl (lv_at hl 0 rfl) ?_
                refine va_get (D := D) (ci := 10) (v := .ref (am 8)) (C := RX10) (T := TX10) (N := 41) hx hb hts hin10 hown hK.1 hP 0 rfl rfl 11 (by decide) (hts _ fl_X10_31) (fun _ h9 => h9) rfl dX10_goesBy_99 ?_
                refine lv_iload hx hb dX10_goesBy_102 (lv_at hl 7 rfl) ?_
                refine z_iald hx hb hK.1 hP 8 0 rfl rfl i rfl (show i < 24 by have := hS24; omega) (by decide) dX10_goesBy_104 ?_
                refine lv_aload_n hx hb dX10_goesBy_105 rfl (lv_at hl 0 rfl) ?_
                refine va_get (D := D) (ci := 10) (v := .ref (am 8)) (C := RX10) (T := TX10) (N := 41) hx hb hts hin10 hown hK.1 hP 0 rfl rfl 11 (by decide) (hts _ fl_X10_31) (fun _ h9 => h9) rfl dX10_goesBy_106 ?_
                refine lv_iload hx hb dX10_goesBy_109 (lv_at hl 4 rfl) ?_
                refine z_iald hx hb hK.1 hP 8 0 rfl rfl jj ejj (show jj < 24 by have := hS24; omega) (by decide) dX10_goesBy_111 ?_
                refine lv_icmp_lt (tgt := 120) hx hb dX10_goesBy_112 (by decide) (fun c_11 => ?_) (fun c_11 => ?_)
                · skip
                  refine lv_iload hx hb dX10_goesBy_120 (lv_at hl 4 rfl) ?_
                  exact hJ_122 (mLa (mSe S q N x y (S_n S)) S i) ls (show (mLa (mSe S q N x y (S_n S)) S i) = (mLa (mSe S q N x y (S_n S)) S (i + 1)) from by rw [mLa]; simp [c_8, c_9, c_10, Int32.not_le.mpr c_11, hbit, hcl, ← Int32.not_le]) (show lv_has ls 9 [(0, .ref (am 0)), (1, .int x), (2, .int y), (3, .int (mSe S q N x y (S_n S))), (4, .int (mLa (mSe S q N x y (S_n S)) S i)), (5, .int (mOp N x y)), (6, .int (mFr (mSe S q N x y (S_n S)) S (mOp N x y) i)), (7, .int (nI i))] from lv_sub hl [0, 1, 2, 3, 4, 5, 6, 7] rfl)
                · skip
                  refine lv_iload hx hb dX10_goesBy_115 (lv_at hl 7 rfl) ?_
                  refine lv_goto (tgt := 122) hx hb dX10_goesBy_117 (by decide) ?_
                  exact hJ_122 (nI i) ls (show (nI i) = (mLa (mSe S q N x y (S_n S)) S (i + 1)) from by rw [mLa]; simp [c_8, c_9, c_10, Int32.not_lt.mp c_11, hbit, hcl, ← Int32.not_le]) (show lv_has ls 9 [(0, .ref (am 0)), (1, .int x), (2, .int y), (3, .int (mSe S q N x y (S_n S))), (4, .int (mLa (mSe S q N x y (S_n S)) S i)), (5, .int (mOp N x y)), (6, .int (mFr (mSe S q N x y (S_n S)) S (mOp N x y) i)), (7, .int (nI i))] from lv_sub hl [0, 1, 2, 3, 4, 5, 6, 7] rfl)
          · skip
            intro a9 ls hI hl
            obtain ⟨u, rfl⟩ : ∃ z, z = a9 := ⟨a9, rfl⟩
            have hI : u = (mLa (mSe S q N x y (S_n S)) S (i + 1)) := hI
            subst hI
            have hl : lv_has ls 9 [(0, .ref (am 0)), (1, .int x), (2, .int y), (3, .int (mSe S q N x y (S_n S))), (4, .int (mLa (mSe S q N x y (S_n S)) S i)), (5, .int (mOp N x y)), (6, .int (mFr (mSe S q N x y (S_n S)) S (mOp N x y) i)), (7, .int (nI i))] := hl
            refine lv_istore (lv' := [(4, .int (mLa (mSe S q N x y (S_n S)) S (i + 1))), (0, .ref (am 0)), (1, .int x), (2, .int y), (3, .int (mSe S q N x y (S_n S))), (5, .int (mOp N x y)), (6, .int (mFr (mSe S q N x y (S_n S)) S (mOp N x y) i)), (7, .int (nI i))]) hx hb dX10_goesBy_122 hl (by decide) rfl (fun ls hl => ?_)
            refine w_join (α := Int32) (fun a9 => a9 = (mFr (mSe S q N x y (S_n S)) S (mOp N x y) (i + 1))) (fun a9 => [(0, .ref (am 0)), (1, .int x), (2, .int y), (3, .int (mSe S q N x y (S_n S))), (4, .int (mLa (mSe S q N x y (S_n S)) S (i + 1))), (5, .int (mOp N x y)), (6, .int (mFr (mSe S q N x y (S_n S)) S (mOp N x y) i)), (7, .int (nI i))]) (fun a9 => [.int a9]) 154 9 (fun hJ_154 => ?_) ?_
            · skip
              refine lv_aload_n hx hb dX10_goesBy_124 rfl (lv_at hl 1 rfl) ?_
              refine va_get (D := D) (ci := 10) (v := .ref (am 5)) (C := RX10) (T := TX10) (N := 41) hx hb hts hin10 hown hK.1 hP 0 rfl rfl 8 (by decide) (hts _ fl_X10_22) (fun _ h9 => h9) rfl dX10_goesBy_125 ?_
              refine lv_iload hx hb dX10_goesBy_128 (lv_at hl 7 rfl) ?_
              refine z_iald hx hb hK.1 hP 5 0 rfl rfl i rfl (show i < 24 by have := hS24; omega) (by decide) dX10_goesBy_130 ?_
              refine lv_iconst (v := 1) hx hb dX10_goesBy_131 (by decide) ?_
              refine lv_icmp_ne (tgt := 152) hx hb dX10_goesBy_132 (by decide) (fun c_12 => ?_) (fun c_12 => ?_)
              · skip
                refine lv_iload hx hb dX10_goesBy_152 (lv_at hl 6 rfl) ?_
                exact hJ_154 (mFr (mSe S q N x y (S_n S)) S (mOp N x y) i) ls (show (mFr (mSe S q N x y (S_n S)) S (mOp N x y) i) = (mFr (mSe S q N x y (S_n S)) S (mOp N x y) (i + 1)) from by rw [mFr, if_neg (fun z9 => c_12 z9.2)]) (show lv_has ls 9 [(0, .ref (am 0)), (1, .int x), (2, .int y), (3, .int (mSe S q N x y (S_n S))), (4, .int (mLa (mSe S q N x y (S_n S)) S (i + 1))), (5, .int (mOp N x y)), (6, .int (mFr (mSe S q N x y (S_n S)) S (mOp N x y) i)), (7, .int (nI i))] from lv_sub hl [1, 2, 3, 4, 0, 5, 6, 7] rfl)
              · skip
                refine lv_iload hx hb dX10_goesBy_135 (lv_at hl 6 rfl) ?_
                refine lv_iconst (v := 1) hx hb dX10_goesBy_137 (by decide) ?_
                refine lv_aload_n hx hb dX10_goesBy_138 rfl (lv_at hl 1 rfl) ?_
                refine va_get (D := D) (ci := 10) (v := .ref (am 6)) (C := RX10) (T := TX10) (N := 41) hx hb hts hin10 hown hK.1 hP 0 rfl rfl 9 (by decide) (hts _ fl_X10_25) (fun _ h9 => h9) rfl dX10_goesBy_139 ?_
                refine lv_iload hx hb dX10_goesBy_142 (lv_at hl 7 rfl) ?_
                refine z_iald hx hb hK.1 hP 6 0 rfl rfl i rfl (show i < 24 by have := hS24; omega) (by decide) dX10_goesBy_144 ?_
                refine lv_ishl hx hb dX10_goesBy_145 ?_
                refine lv_iconst (v := (-1)) hx hb dX10_goesBy_146 (by decide) ?_
                refine lv_ixor hx hb dX10_goesBy_147 ?_
                refine lv_iand hx hb dX10_goesBy_148 ?_
                refine lv_goto (tgt := 154) hx hb dX10_goesBy_149 (by decide) ?_
                exact hJ_154 ((mFr (mSe S q N x y (S_n S)) S (mOp N x y) i) &&& ((1 <<< (((S_v S) i) &&& 31)) ^^^ (-1))) ls (show ((mFr (mSe S q N x y (S_n S)) S (mOp N x y) i) &&& ((1 <<< (((S_v S) i) &&& 31)) ^^^ (-1))) = (mFr (mSe S q N x y (S_n S)) S (mOp N x y) (i + 1)) from by rw [mFr, if_pos ⟨hbit, c_12⟩]) (show lv_has ls 9 [(0, .ref (am 0)), (1, .int x), (2, .int y), (3, .int (mSe S q N x y (S_n S))), (4, .int (mLa (mSe S q N x y (S_n S)) S (i + 1))), (5, .int (mOp N x y)), (6, .int (mFr (mSe S q N x y (S_n S)) S (mOp N x y) i)), (7, .int (nI i))] from lv_sub hl [1, 2, 3, 4, 0, 5, 6, 7] rfl)
            · skip
              intro a9 ls hI hl
              obtain ⟨u, rfl⟩ : ∃ z, z = a9 := ⟨a9, rfl⟩
              have hI : u = (mFr (mSe S q N x y (S_n S)) S (mOp N x y) (i + 1)) := hI
              subst hI
              have hl : lv_has ls 9 [(0, .ref (am 0)), (1, .int x), (2, .int y), (3, .int (mSe S q N x y (S_n S))), (4, .int (mLa (mSe S q N x y (S_n S)) S (i + 1))), (5, .int (mOp N x y)), (6, .int (mFr (mSe S q N x y (S_n S)) S (mOp N x y) i)), (7, .int (nI i))] := hl
              refine lv_istore (lv' := [(6, .int (mFr (mSe S q N x y (S_n S)) S (mOp N x y) (i + 1))), (0, .ref (am 0)), (1, .int x), (2, .int y), (3, .int (mSe S q N x y (S_n S))), (4, .int (mLa (mSe S q N x y (S_n S)) S (i + 1))), (5, .int (mOp N x y)), (7, .int (nI i))]) hx hb dX10_goesBy_154 hl (by decide) rfl (fun ls hl => ?_)
              refine lv_iinc (v := (nI (i + 1))) (lv' := [(7, .int (nI (i + 1))), (6, .int (mFr (mSe S q N x y (S_n S)) S (mOp N x y) (i + 1))), (0, .ref (am 0)), (1, .int x), (2, .int y), (3, .int (mSe S q N x y (S_n S))), (4, .int (mLa (mSe S q N x y (S_n S)) S (i + 1))), (5, .int (mOp N x y))]) hx hb dX10_goesBy_156 hl (k := 7) rfl (nI_add i 1) (by decide) rfl (fun ls hl => ?_)
              refine lv_goto (tgt := 39) hx hb dX10_goesBy_159 (by decide) ?_
              exact ih_39 (i + 1) ls (show (i + 1) ≤ S_n S ∧ anyB (mKs (mSe S q N x y (S_n S)) S) (i + 1) = false from ⟨hlt, by rw [anyB, hI0.2, Bool.false_or]; unfold mKs; rw [decide_eq_false_iff_not]; exact fun z9 => c_8 z9.2.1⟩) (show S_n S - (i + 1) < S_n S - i from by omega) (show lv_has ls 9 [(0, .ref (am 0)), (1, .int x), (2, .int y), (3, .int (mSe S q N x y (S_n S))), (4, .int (mLa (mSe S q N x y (S_n S)) S (i + 1))), (5, .int (mOp N x y)), (6, .int (mFr (mSe S q N x y (S_n S)) S (mOp N x y) (i + 1))), (7, .int (nI (i + 1)))] from lv_sub hl [2, 3, 4, 5, 6, 7, 1, 0] rfl)
        · skip
          refine lv_aload_n hx hb dX10_goesBy_69 rfl (lv_at hl 0 rfl) ?_
          refine va_get (D := D) (ci := 10) (v := .ref (am 6)) (C := RX10) (T := TX10) (N := 41) hx hb hts hin10 hown hK.1 hP 0 rfl rfl 9 (by decide) (hts _ fl_X10_25) (fun _ h9 => h9) rfl dX10_goesBy_70 ?_
          refine lv_iload hx hb dX10_goesBy_73 (lv_at hl 7 rfl) ?_
          refine z_iald hx hb hK.1 hP 6 0 rfl rfl i rfl (show i < 24 by have := hS24; omega) (by decide) dX10_goesBy_75 ?_
          refine lv_if_ne (tgt := 82) hx hb dX10_goesBy_76 (by decide) (fun c_13 => ?_) (fun c_13 => ?_)
          · skip
            refine w_join (α := Int32) (fun a9 => a9 = (mLa (mSe S q N x y (S_n S)) S (i + 1))) (fun a9 => [(0, .ref (am 0)), (1, .int x), (2, .int y), (3, .int (mSe S q N x y (S_n S))), (4, .int (mLa (mSe S q N x y (S_n S)) S i)), (5, .int (mOp N x y)), (6, .int (mFr (mSe S q N x y (S_n S)) S (mOp N x y) i)), (7, .int (nI i))]) (fun a9 => [.int a9]) 122 9 (fun hJ_122 => ?_) ?_
            · skip
              refine lv_aload_n hx hb dX10_goesBy_82 rfl (lv_at hl 0 rfl) ?_
              refine va_get (D := D) (ci := 10) (v := .ref (am 5)) (C := RX10) (T := TX10) (N := 41) hx hb hts hin10 hown hK.1 hP 0 rfl rfl 8 (by decide) (hts _ fl_X10_22) (fun _ h9 => h9) rfl dX10_goesBy_83 ?_
              refine lv_iload hx hb dX10_goesBy_86 (lv_at hl 7 rfl) ?_
              refine z_iald hx hb hK.1 hP 5 0 rfl rfl i rfl (show i < 24 by have := hS24; omega) (by decide) dX10_goesBy_88 ?_
              refine lv_if_ne (tgt := 120) hx hb dX10_goesBy_89 (by decide) (fun c_14 => ?_) (fun c_14 => ?_)
              · skip
                refine lv_iload hx hb dX10_goesBy_120 (lv_at hl 4 rfl) ?_
                exact hJ_122 (mLa (mSe S q N x y (S_n S)) S i) ls (show (mLa (mSe S q N x y (S_n S)) S i) = (mLa (mSe S q N x y (S_n S)) S (i + 1)) from by rw [mLa]; simp [c_8, c_13, c_14, hbit, ← Int32.not_le]) (show lv_has ls 9 [(0, .ref (am 0)), (1, .int x), (2, .int y), (3, .int (mSe S q N x y (S_n S))), (4, .int (mLa (mSe S q N x y (S_n S)) S i)), (5, .int (mOp N x y)), (6, .int (mFr (mSe S q N x y (S_n S)) S (mOp N x y) i)), (7, .int (nI i))] from lv_sub hl [0, 1, 2, 3, 4, 5, 6, 7] rfl)
              · skip
                exact absurd (c_8.symm.trans c_14) (by decide)
            · skip
              intro a9 ls hI hl
              obtain ⟨u, rfl⟩ : ∃ z, z = a9 := ⟨a9, rfl⟩
              have hI : u = (mLa (mSe S q N x y (S_n S)) S (i + 1)) := hI
              subst hI
              have hl : lv_has ls 9 [(0, .ref (am 0)), (1, .int x), (2, .int y), (3, .int (mSe S q N x y (S_n S))), (4, .int (mLa (mSe S q N x y (S_n S)) S i)), (5, .int (mOp N x y)), (6, .int (mFr (mSe S q N x y (S_n S)) S (mOp N x y) i)), (7, .int (nI i))] := hl
              refine lv_istore (lv' := [(4, .int (mLa (mSe S q N x y (S_n S)) S (i + 1))), (0, .ref (am 0)), (1, .int x), (2, .int y), (3, .int (mSe S q N x y (S_n S))), (5, .int (mOp N x y)), (6, .int (mFr (mSe S q N x y (S_n S)) S (mOp N x y) i)), (7, .int (nI i))]) hx hb dX10_goesBy_122 hl (by decide) rfl (fun ls hl => ?_)
              refine w_join (α := Int32) (fun a9 => a9 = (mFr (mSe S q N x y (S_n S)) S (mOp N x y) (i + 1))) (fun a9 => [(0, .ref (am 0)), (1, .int x), (2, .int y), (3, .int (mSe S q N x y (S_n S))), (4, .int (mLa (mSe S q N x y (S_n S)) S (i + 1))), (5, .int (mOp N x y)), (6, .int (mFr (mSe S q N x y (S_n S)) S (mOp N x y) i)), (7, .int (nI i))]) (fun a9 => [.int a9]) 154 9 (fun hJ_154 => ?_) ?_
              · skip
                refine lv_aload_n hx hb dX10_goesBy_124 rfl (lv_at hl 1 rfl) ?_
                refine va_get (D := D) (ci := 10) (v := .ref (am 5)) (C := RX10) (T := TX10) (N := 41) hx hb hts hin10 hown hK.1 hP 0 rfl rfl 8 (by decide) (hts _ fl_X10_22) (fun _ h9 => h9) rfl dX10_goesBy_125 ?_
                refine lv_iload hx hb dX10_goesBy_128 (lv_at hl 7 rfl) ?_
                refine z_iald hx hb hK.1 hP 5 0 rfl rfl i rfl (show i < 24 by have := hS24; omega) (by decide) dX10_goesBy_130 ?_
                refine lv_iconst (v := 1) hx hb dX10_goesBy_131 (by decide) ?_
                refine lv_icmp_ne (tgt := 152) hx hb dX10_goesBy_132 (by decide) (fun c_15 => ?_) (fun c_15 => ?_)
                · skip
                  refine lv_iload hx hb dX10_goesBy_152 (lv_at hl 6 rfl) ?_
                  exact hJ_154 (mFr (mSe S q N x y (S_n S)) S (mOp N x y) i) ls (show (mFr (mSe S q N x y (S_n S)) S (mOp N x y) i) = (mFr (mSe S q N x y (S_n S)) S (mOp N x y) (i + 1)) from by rw [mFr, if_neg (fun z9 => c_15 z9.2)]) (show lv_has ls 9 [(0, .ref (am 0)), (1, .int x), (2, .int y), (3, .int (mSe S q N x y (S_n S))), (4, .int (mLa (mSe S q N x y (S_n S)) S (i + 1))), (5, .int (mOp N x y)), (6, .int (mFr (mSe S q N x y (S_n S)) S (mOp N x y) i)), (7, .int (nI i))] from lv_sub hl [1, 2, 3, 4, 0, 5, 6, 7] rfl)
                · skip
                  exact absurd (c_8.symm.trans c_15) (by decide)
              · skip
                intro a9 ls hI hl
                obtain ⟨u, rfl⟩ : ∃ z, z = a9 := ⟨a9, rfl⟩
                have hI : u = (mFr (mSe S q N x y (S_n S)) S (mOp N x y) (i + 1)) := hI
                subst hI
                have hl : lv_has ls 9 [(0, .ref (am 0)), (1, .int x), (2, .int y), (3, .int (mSe S q N x y (S_n S))), (4, .int (mLa (mSe S q N x y (S_n S)) S (i + 1))), (5, .int (mOp N x y)), (6, .int (mFr (mSe S q N x y (S_n S)) S (mOp N x y) i)), (7, .int (nI i))] := hl
                refine lv_istore (lv' := [(6, .int (mFr (mSe S q N x y (S_n S)) S (mOp N x y) (i + 1))), (0, .ref (am 0)), (1, .int x), (2, .int y), (3, .int (mSe S q N x y (S_n S))), (4, .int (mLa (mSe S q N x y (S_n S)) S (i + 1))), (5, .int (mOp N x y)), (7, .int (nI i))]) hx hb dX10_goesBy_154 hl (by decide) rfl (fun ls hl => ?_)
                refine lv_iinc (v := (nI (i + 1))) (lv' := [(7, .int (nI (i + 1))), (6, .int (mFr (mSe S q N x y (S_n S)) S (mOp N x y) (i + 1))), (0, .ref (am 0)), (1, .int x), (2, .int y), (3, .int (mSe S q N x y (S_n S))), (4, .int (mLa (mSe S q N x y (S_n S)) S (i + 1))), (5, .int (mOp N x y))]) hx hb dX10_goesBy_156 hl (k := 7) rfl (nI_add i 1) (by decide) rfl (fun ls hl => ?_)
                refine lv_goto (tgt := 39) hx hb dX10_goesBy_159 (by decide) ?_
                exact ih_39 (i + 1) ls (show (i + 1) ≤ S_n S ∧ anyB (mKs (mSe S q N x y (S_n S)) S) (i + 1) = false from ⟨hlt, by rw [anyB, hI0.2, Bool.false_or]; unfold mKs; rw [decide_eq_false_iff_not]; exact fun z9 => c_13 z9.2.2⟩) (show S_n S - (i + 1) < S_n S - i from by omega) (show lv_has ls 9 [(0, .ref (am 0)), (1, .int x), (2, .int y), (3, .int (mSe S q N x y (S_n S))), (4, .int (mLa (mSe S q N x y (S_n S)) S (i + 1))), (5, .int (mOp N x y)), (6, .int (mFr (mSe S q N x y (S_n S)) S (mOp N x y) (i + 1))), (7, .int (nI (i + 1)))] from lv_sub hl [2, 3, 4, 5, 6, 7, 1, 0] rfl)
          · skip
            refine lv_bipush (v := (-2)) hx hb dX10_goesBy_79 (by decide) ?_
            exact ro_iret hx hb hr hlocks (by unfold mGo; rw [if_pos ((anyB_iff _).mpr ⟨i, hlt, by unfold mKs; exact decide_eq_true ⟨hbit, c_8, c_13⟩⟩)]) dX10_goesBy_81
