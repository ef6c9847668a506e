/-! the state in tuples; small words of the specification; the class's worlds -/
def zb (P : Prop) [Decidable P] : Int32 := if P then 1 else 0
theorem zb_t {P : Prop} [Decidable P] (h : P) : zb P = 1 := if_pos h
theorem zb_f {P : Prop} [Decidable P] (h : ¬ P) : zb P = 0 := if_neg h
theorem zb_eq0 {P : Prop} [Decidable P] (h : zb P = 0) : ¬ P := fun q => by rw [zb_t q] at h; exact absurd h (by decide)
theorem zb_ne0 {P : Prop} [Decidable P] (h : ¬ zb P = 0) : P := by
  by_cases q : P
  · exact q
  · exact absurd (zb_f q) h
theorem zb_congr {P Q : Prop} [Decidable P] [Decidable Q] (h : P ↔ Q) : zb P = zb Q := by
  by_cases q : P
  · rw [zb_t q, zb_t (h.mp q)]
  · rw [zb_f q, zb_f (fun z => q (h.mpr z))]
theorem nar_zb (P : Prop) [Decidable P] : narrow .boolean (.int (zb P)) = .int (zb P) := by
  by_cases q : P
  · rw [zb_t q]; rfl
  · rw [zb_f q]; rfl
theorem vp_in_c {i : Int32} {n : Nat} (hn : n < 2 ^ 31) (h0 : ¬ i < 0) (h1 : ¬ nI n ≤ i) : vp_in i n := by
  rw [vp_in_iff]
  rw [Int32.lt_iff_toInt_lt] at h0
  rw [Int32.le_iff_toInt_le, nI_toInt hn] at h1
  have : (0 : Int32).toInt = 0 := by decide
  omega
theorem nI_cl {k : Nat} (h : k < 2 ^ 31) : (nI k).toNatClampNeg = k := nI_clamp h
/-- a row's cell, read; put -/
def rg (n : Nat) (f : Nat → Int32) (i : Int32) : Int32 := if 0 ≤ i ∧ i < nI n then f i.toNatClampNeg else -1
def rp (n : Nat) (f : Nat → Int32) (i v : Int32) : Nat → Int32 := if 0 ≤ i ∧ i < nI n then upd f i.toNatClampNeg v else f
theorem rg_in {n k : Nat} {f : Nat → Int32} (h : k < n) (hn : n < 2 ^ 31) : rg n f (nI k) = f k := by
  unfold rg
  rw [if_pos ⟨nI_pos' (by omega), nI_lt h hn⟩, nI_cl (by omega)]
theorem rg_neg {n : Nat} {f : Nat → Int32} {i : Int32} (h : i < 0) : rg n f i = -1 := if_neg (fun q => absurd q.1 (by rw [Int32.not_le]; exact h))
theorem rg_ge {n : Nat} {f : Nat → Int32} {i : Int32} (h : nI n ≤ i) : rg n f i = -1 := if_neg (fun q => absurd q.2 (by rw [Int32.not_lt]; exact h))
theorem rp_in {n k : Nat} {f : Nat → Int32} {v : Int32} (h : k < n) (hn : n < 2 ^ 31) : rp n f (nI k) v = upd f k v := by
  unfold rp
  rw [if_pos ⟨nI_pos' (by omega), nI_lt h hn⟩, nI_cl (by omega)]
abbrev TN : Type := Nat × (Nat → Int32) × (Nat → Int32) × (Nat → Int32)
abbrev N_n (N : TN) : Nat := N.1
abbrev N_a (N : TN) : Nat → Int32 := N.2.1
abbrev N_b (N : TN) : Nat → Int32 := N.2.2.1
abbrev N_l (N : TN) : Nat → Int32 := N.2.2.2
abbrev TS : Type := Nat × (Nat → Int32) × (Nat → Int32) × (Nat → Int32) × (Nat → Int32) × (Nat → Int32) × (Nat → Int32) × (Nat → Int32) × (Nat → Int32)
abbrev S_n (S : TS) : Nat := S.1
abbrev S_p (S : TS) : Nat → Int32 := S.2.1
abbrev S_k (S : TS) : Nat → Int32 := S.2.2.1
abbrev S_v (S : TS) : Nat → Int32 := S.2.2.2.1
abbrev S_f (S : TS) : Nat → Int32 := S.2.2.2.2.1
abbrev S_d (S : TS) : Nat → Int32 := S.2.2.2.2.2.1
abbrev S_u (S : TS) : Nat → Int32 := S.2.2.2.2.2.2.1
abbrev S_y (S : TS) : Nat → Int32 := S.2.2.2.2.2.2.2.1
abbrev S_t (S : TS) : Nat → Int32 := S.2.2.2.2.2.2.2.2
/-- day, weather, fog -/
abbrev TQ : Type := Int32 × Int32 × Int32
/-- route: how many, places, leeway -/
abbrev TR : Type := Nat × (Nat → Int32) × Int32
/-- trails: how many, places, sizes, false ones, reach -/
abbrev TT : Type := Nat × (Nat → Int32) × (Nat → Int32) × (Nat → Int32) × Int32
/-- branches -/
abbrev TF : Type := Nat × (Nat → Int32)
/-- clubs: their paths; how many told, clubs, colours, days -/
abbrev TC : Type := (Nat → Int32) × Nat × (Nat → Int32) × (Nat → Int32) × (Nat → Int32)
/-- notes -/
abbrev TO : Type := Nat × (Nat → Int32)
def wRow (r c : Nat) (cI : ClassId) (room n : Nat) (f : Nat → Int32) : va_W := [(r, .inr (5, [.ref c, .int (nI n)])), (c, .inl (cI, (room, .inl f)))]
def wNet (a : Nat → Nat) (cI : ClassId) (N : TN) (pb : Nat → Int32) : va_W := [(a 1, .inr (2, [.ref (a 2), .ref (a 4), .ref (a 6), .ref (a 8)])),
  (a 2, .inr (5, [.ref (a 3), .int (nI (N_n N))])), (a 3, .inl (cI, (16, .inl (N_a N)))),
  (a 4, .inr (5, [.ref (a 5), .int (nI (N_n N))])), (a 5, .inl (cI, (16, .inl (N_b N)))),
  (a 6, .inr (5, [.ref (a 7), .int (nI (N_n N))])), (a 7, .inl (cI, (16, .inl (N_l N)))),
  (a 8, .inr (5, [.ref (a 9), .int (nI 10)])), (a 9, .inl (cI, (10, .inl pb)))]
def wSg (a : Nat → Nat) (cI : ClassId) (S : TS) (sb : Nat → Int32) (q : TQ) : va_W := [(a 10, .inr (6, [.ref (a 1), .ref (a 11), .ref (a 13), .ref (a 15), .ref (a 17), .ref (a 19), .ref (a 21), .ref (a 23), .int q.1, .int q.2.1, .int q.2.2])),
  (a 11, .inr (5, [.ref (a 12), .int (nI (S_n S))])), (a 12, .inl (cI, (24, .inl (S_p S)))),
  (a 13, .inr (5, [.ref (a 14), .int (nI (S_n S))])), (a 14, .inl (cI, (24, .inl (S_k S)))),
  (a 15, .inr (5, [.ref (a 16), .int (nI (S_n S))])), (a 16, .inl (cI, (24, .inl (S_v S)))),
  (a 17, .inr (5, [.ref (a 18), .int (nI (S_n S))])), (a 18, .inl (cI, (24, .inl (S_f S)))),
  (a 19, .inr (5, [.ref (a 20), .int (nI (S_n S))])), (a 20, .inl (cI, (24, .inl (S_d S)))),
  (a 21, .inr (5, [.ref (a 22), .int (nI (S_n S))])), (a 22, .inl (cI, (24, .inl (S_u S)))),
  (a 23, .inr (5, [.ref (a 24), .int (nI (S_n S))])), (a 24, .inl (cI, (24, .inl sb)))]
def wWk (a : Nat → Nat) (cI : ClassId) (w : Nat × (Nat → Int32) × Int32 × Int32) : va_W := [(a 25, .inr (8, [.ref (a 1), .ref (a 10), .ref (a 26), .int w.2.2.1, .int w.2.2.2])),
  (a 26, .inr (5, [.ref (a 27), .int (nI w.1)])), (a 27, .inl (cI, (31, .inl w.2.1)))]
def wNt (a : Nat → Nat) (cI : ClassId) (o : TO) (wy : Nat → Int32) : va_W := [(a 28, .inr (3, [.ref (a 1), .ref (a 10), .ref (a 29), .ref (a 31)])),
  (a 29, .inr (5, [.ref (a 30), .int (nI o.1)])), (a 30, .inl (cI, (8, .inl o.2))),
  (a 31, .inr (5, [.ref (a 32), .int (nI 256)])), (a 32, .inl (cI, (256, .inl wy)))]
def wRt (a : Nat → Nat) (cI : ClassId) (r : TR) : va_W := [(a 33, .inr (4, [.ref (a 1), .ref (a 25), .ref (a 34), .int r.2.2])),
  (a 34, .inr (5, [.ref (a 35), .int (nI r.1)])), (a 35, .inl (cI, (10, .inl r.2.1)))]
def wTr (a : Nat → Nat) (cI : ClassId) (t : TT) : va_W := [(a 36, .inr (7, [.ref (a 1), .ref (a 33), .ref (a 37), .ref (a 39), .ref (a 41), .int t.2.2.2.2])),
  (a 37, .inr (5, [.ref (a 38), .int (nI 36)])), (a 38, .inl (cI, (36, .inl t.2.1))),
  (a 39, .inr (5, [.ref (a 40), .int (nI t.1)])), (a 40, .inl (cI, (6, .inl t.2.2.1))),
  (a 41, .inr (5, [.ref (a 42), .int (nI t.1)])), (a 42, .inl (cI, (6, .inl t.2.2.2.1)))]
def wFk (a : Nat → Nat) (cI : ClassId) (f : TF) (tr be : Nat → Int32) : va_W := [(a 43, .inr (1, [.ref (a 44), .ref (a 46), .ref (a 48)])),
  (a 44, .inr (5, [.ref (a 45), .int (nI f.1)])), (a 45, .inl (cI, (5, .inl f.2))),
  (a 46, .inr (5, [.ref (a 47), .int (nI 5)])), (a 47, .inl (cI, (5, .inl tr))),
  (a 48, .inr (5, [.ref (a 49), .int (nI 5)])), (a 49, .inl (cI, (5, .inl be)))]
def wCl (a : Nat → Nat) (cI : ClassId) (c : TC) : va_W := [(a 50, .inr (0, [.ref (a 51), .ref (a 53), .ref (a 55), .ref (a 57)])),
  (a 51, .inr (5, [.ref (a 52), .int (nI 4)])), (a 52, .inl (cI, (4, .inl c.1))),
  (a 53, .inr (5, [.ref (a 54), .int (nI c.2.1)])), (a 54, .inl (cI, (8, .inl c.2.2.1))),
  (a 55, .inr (5, [.ref (a 56), .int (nI c.2.1)])), (a 56, .inl (cI, (8, .inl c.2.2.2.1))),
  (a 57, .inr (5, [.ref (a 58), .int (nI c.2.1)])), (a 58, .inl (cI, (8, .inl c.2.2.2.2)))]
section Z2
variable {p : Program} {l : Launch} {e : Env} {R : Room} {s : State} {m : MethodId} {args : Array Value} {below : List Frame} {meth : Method} {c : Code} {cells slots : Nat}
theorem ro_iret {cc : ByteArray} (hexec : p.tables.exec = Jvm.exec) (hb : c.code = cc) (hr : meth.sig.returnType = some .int) (hlocks : meth.locks = false) {v r : Int32} (h : v = r) {pc : Nat} {ls : Array Slot} (hdg : decode cc pc = .ok (.ireturn, 1)) :
    W p l e R s m args below meth c s.heap [] cells slots (MQ below (QcRead r) args s cells slots (fun _ => False)) (F0 m pc ls [.int v]) :=
  W.iret hexec hb hr (fun t ht _ => ⟨by rw [h], ht⟩) (fun _ q => by cases q) hdg hlocks
theorem ro_zret {cc : ByteArray} (hexec : p.tables.exec = Jvm.exec) (hb : c.code = cc) (hr : meth.sig.returnType = some .boolean) (hlocks : meth.locks = false) {v r : Int32} (hn : narrow .boolean (.int r) = .int r) (h : v = r) {pc : Nat} {ls : Array Slot} (hdg : decode cc pc = .ok (.ireturn, 1)) :
    W p l e R s m args below meth c s.heap [] cells slots (MQ below (QcRead r) args s cells slots (fun _ => False)) (F0 m pc ls [.int v]) :=
  W.zret hexec hb hr (by rw [h]; exact hn) (fun t ht _ => ⟨by rw [h], ht⟩) (fun _ q => by cases q) hdg hlocks
theorem mu_iret {S : Type} {D : va_G} {ws : va_W} {post : Int32 → S → Prop} {wf : S → va_W} {H : Heap} {locs : List Loc} {cc : ByteArray} (hexec : p.tables.exec = Jvm.exec) (hb : c.code = cc) (hr : meth.sig.returnType = some .int) (hlocks : meth.locks = false) {v : Int32} (u : S) (h : post v u) (hP : va_P D vwCl (wf u) H) (hS : va_S (inW ws) s.heap H locs) {pc : Nat} {ls : Array Slot} (hdg : decode cc pc = .ok (.ireturn, 1)) :
    W p l e R s m args below meth c H locs cells slots (MQ below (QcMi D ws post wf) args s cells slots (inW ws)) (F0 m pc ls [.int v]) :=
  W.iret hexec hb hr (fun t ht _ => ⟨⟨v, u, rfl, h, by rw [ht]; exact hP⟩, hS.F ht⟩) hS.2.2 hdg hlocks
theorem mu_zret {S : Type} {D : va_G} {ws : va_W} {post : Int32 → S → Prop} {wf : S → va_W} {H : Heap} {locs : List Loc} {cc : ByteArray} (hexec : p.tables.exec = Jvm.exec) (hb : c.code = cc) (hr : meth.sig.returnType = some .boolean) (hlocks : meth.locks = false) {v : Int32} (hn : narrow .boolean (.int v) = .int v) (u : S) (h : post v u) (hP : va_P D vwCl (wf u) H) (hS : va_S (inW ws) s.heap H locs) {pc : Nat} {ls : Array Slot} (hdg : decode cc pc = .ok (.ireturn, 1)) :
    W p l e R s m args below meth c H locs cells slots (MQ below (QcMi D ws post wf) args s cells slots (inW ws)) (F0 m pc ls [.int v]) :=
  W.zret hexec hb hr hn (fun t ht _ => ⟨⟨v, u, rfl, h, by rw [ht]; exact hP⟩, hS.F ht⟩) hS.2.2 hdg hlocks
theorem mu_vret {S : Type} {D : va_G} {ws : va_W} {post : S → Prop} {wf : S → va_W} {H : Heap} {locs : List Loc} {cc : ByteArray} (hexec : p.tables.exec = Jvm.exec) (hb : c.code = cc) (hr : meth.sig.returnType = none) (hlocks : meth.locks = false) (u : S) (h : post u) (hP : va_P D vwCl (wf u) H) (hS : va_S (inW ws) s.heap H locs) {pc : Nat} {ls : Array Slot} (hdg : decode cc pc = .ok (.return_, 1)) :
    W p l e R s m args below meth c H locs cells slots (MQ below (QcMv D ws post wf) args s cells slots (inW ws)) (F0 m pc ls []) :=
  W.vret hexec hb hr (fun t ht _ => ⟨⟨u, rfl, h, by rw [ht]; exact hP⟩, hS.F ht⟩) hS.2.2 hdg hlocks
/-- an array's cell at a known place -/
theorem z_iald {H : Heap} {locs : List Loc} {Q : State → Prop} {pc : Nat} {ls : Array Slot} {rest : List Value} {D : va_G} {cl : List vw_C} {a : Nat} {tys : List (ClassId × FieldType)} {ws : va_W} {cc : ByteArray} (hexec : p.tables.exec = Jvm.exec) (hb : c.code = cc) (hK : va_K D cl tys s) (hP : va_P D cl ws H) (q0 t0 : Nat) {cA : ClassId} {n : Nat} {f : Nat → Int32} (ha : ws[q0]? = some (a, .inl (cA, n, .inl f))) (ht : tys[t0]? = some (cA, .int)) (k : Nat) {i : Int32} (hi : i = nI k) (hk : k < n) (hn : n < 2 ^ 31) (hdg : decode cc pc = .ok (.iaload, 1))
    (kk : W p l e R s m args below meth c H locs cells slots Q (F0 m (pc + 1) ls (.int (f k) :: rest))) : W p l e R s m args below meth c H locs cells slots Q (F0 m pc ls (.int i :: .ref a :: rest)) := by
  subst hi
  exact va_iald hexec hb hK hP q0 t0 ha ht (vp_in_nI hk hn) hdg (by rw [nI_cl (by omega)]; exact kk)
theorem z_zald {H : Heap} {locs : List Loc} {Q : State → Prop} {pc : Nat} {ls : Array Slot} {rest : List Value} {D : va_G} {cl : List vw_C} {a : Nat} {tys : List (ClassId × FieldType)} {ws : va_W} {cc : ByteArray} (hexec : p.tables.exec = Jvm.exec) (hb : c.code = cc) (hK : va_K D cl tys s) (hP : va_P D cl ws H) (q0 t0 : Nat) {cA : ClassId} {n : Nat} {f : Nat → Int32} (ha : ws[q0]? = some (a, .inl (cA, n, .inl f))) (ht : tys[t0]? = some (cA, .boolean)) (k : Nat) {i : Int32} (hi : i = nI k) (hk : k < n) (hn : n < 2 ^ 31) (hdg : decode cc pc = .ok (.baload, 1))
    (kk : W p l e R s m args below meth c H locs cells slots Q (F0 m (pc + 1) ls (.int (f k) :: rest))) : W p l e R s m args below meth c H locs cells slots Q (F0 m pc ls (.int i :: .ref a :: rest)) := by
  subst hi
  exact va_zald hexec hb hK hP q0 t0 ha ht (vp_in_nI hk hn) hdg (by rw [nI_cl (by omega)]; exact kk)
theorem z_iast {H H0 : Heap} {locs : List Loc} {A : Nat → Prop} {Q : State → Prop} {pc : Nat} {ls : Array Slot} {rest : List Value} {D : va_G} {cl : List vw_C} {a : Nat} {tys : List (ClassId × FieldType)} {ws : va_W} {cc : ByteArray} (hexec : p.tables.exec = Jvm.exec) (hb : c.code = cc) (hK : va_K D cl tys s) (hP : va_P D cl ws H) (hD : va_D A ws) (hS : va_S A H0 H locs) (q0 t0 : Nat) {cA : ClassId} {n : Nat} {f : Nat → Int32} (ha : ws[q0]? = some (a, .inl (cA, n, .inl f))) (ht : tys[t0]? = some (cA, .int)) (k : Nat) {i x : Int32} (hi : i = nI k) (hk : k < n) (hn : n < 2 ^ 31) (hdg : decode cc pc = .ok (.iastore, 1))
    (kk : ∀ (H1 : Heap) (locs1 : List Loc), va_P D cl (ws.set q0 (a, .inl (cA, n, .inl (upd f k x)))) H1 → va_D A (ws.set q0 (a, .inl (cA, n, .inl (upd f k x)))) → va_S A H0 H1 locs1 → W p l e R s m args below meth c H1 locs1 cells slots Q (F0 m (pc + 1) ls rest)) : W p l e R s m args below meth c H locs cells slots Q (F0 m pc ls (.int x :: .int i :: .ref a :: rest)) := by
  subst hi
  refine va_iast hexec hb hK hP hD hS q0 t0 ha ht (vp_in_nI hk hn) hdg (fun H1 locs1 h1 h2 h3 => ?_)
  rw [nI_cl (by omega)] at h1 h2
  exact kk H1 locs1 h1 h2 h3
theorem z_zast {H H0 : Heap} {locs : List Loc} {A : Nat → Prop} {Q : State → Prop} {pc : Nat} {ls : Array Slot} {rest : List Value} {D : va_G} {cl : List vw_C} {a : Nat} {tys : List (ClassId × FieldType)} {ws : va_W} {cc : ByteArray} (hexec : p.tables.exec = Jvm.exec) (hb : c.code = cc) (hK : va_K D cl tys s) (hP : va_P D cl ws H) (hD : va_D A ws) (hS : va_S A H0 H locs) (q0 t0 : Nat) {cA : ClassId} {n : Nat} {f : Nat → Int32} (ha : ws[q0]? = some (a, .inl (cA, n, .inl f))) (ht : tys[t0]? = some (cA, .boolean)) (k : Nat) {i x : Int32} (hi : i = nI k) (hk : k < n) (hn : n < 2 ^ 31) (hx : vp_nar .boolean x = x) (hdg : decode cc pc = .ok (.bastore, 1))
    (kk : ∀ (H1 : Heap) (locs1 : List Loc), va_P D cl (ws.set q0 (a, .inl (cA, n, .inl (upd f k x)))) H1 → va_D A (ws.set q0 (a, .inl (cA, n, .inl (upd f k x)))) → va_S A H0 H1 locs1 → W p l e R s m args below meth c H1 locs1 cells slots Q (F0 m (pc + 1) ls rest)) : W p l e R s m args below meth c H locs cells slots Q (F0 m pc ls (.int x :: .int i :: .ref a :: rest)) := by
  subst hi
  refine va_zast hexec hb hK hP hD hS q0 t0 ha ht (vp_in_nI hk hn) hdg (fun H1 locs1 h1 h2 h3 => ?_)
  rw [nI_cl (by omega), hx] at h1 h2
  exact kk H1 locs1 h1 h2 h3
end Z2
