/-! THE CLAIM OUT OF ONE WALK OF THE LAW'S BODY. Your part is whole_start (and what it stands on); all else here is the same for every law, but numbers. -/
def R_law : String := "TwigsAndStonesLaw"
def lw_P (b : Addr) (xs : List Int32) (args : Array Value) (s : State) : Prop := args = #[.ref b] ∧ s.IntsAt b xs ∧ xs.length ≤ 3584 ∧ (Jvm.Cond.and given_1 narrow_1).before args s = true
def lw_Q (_ : Array Value) (s : State) (o : Outcome) (t : State) : Prop := o = .returned (some (.int 1)) ∧ Framed s o t [] 600000 7302249
def lw_Z (below : List Frame) (a : Array Value) (s : State) : State → Prop := fun t => ∃ o, t.status = .running ∧ Ended t below o ∧ lw_Q a s o t
/-- the law's own end, with 1 on the stack, nothing written that was there before, its room as the claim has it -/
theorem lw_ret {p : Program} {l : Launch} {e : Env} {s : State} {m : MethodId} {below : List Frame} {meth : Method} {c : Code} {b : Nat} (hx : p.tables.exec = Jvm.exec) (hb : c.code = code) (hr : meth.sig.returnType = ret) (hlocks : meth.locks = false) {pc : Nat} {H : Heap} {ls : Array Slot} (hdg : decode code pc = .ok (.ireturn, 1)) : W p l e room_1 s m #[Value.ref b] below meth c H [] 600000 7302249 (lw_Z below #[Value.ref b] s) (F0 m pc ls [.int 1]) := by
  intro T hT X
  obtain ⟨fs, hret, hrun, hended, hW, hframe⟩ := X.leave (v := some (.int 1)) (hlocks := hlocks) (fun h => by rw [hr] at h; cases h)
  have hmeth' : T.vm.method? m = some meth := X.method'
  refine ⟨T.setFrames fs, ?_, .returned (some (.int 1)), hrun, hended, rfl, ⟨_, rfl⟩, hW, hframe⟩
  jvm_step X.here [X.here.top, hx, hb, hdg, hmeth', hr, ret, narrow_b1]
  (try refine ⟨rfl, ?_⟩); (try refine ⟨rfl, ?_⟩)
  first | (intro acts; rw [hret _ acts rfl rfl rfl]) | rw [hret _ _ rfl rfl rfl]
  exact Steps.refl _
/-- what holds at the law's entry: the machine, the code, the tables' words (any of lw_tbl by 'hts w (by decide +kernel)'), the script of L ints xs at the cell b, what the Statement gives of the start (any of its parts by flat_of_before) -/
def lw_At (p : Program) (s : State) (m : MethodId) (meth : Method) (c : Code) (b L : Nat) (xs : Nat → Int32) : Prop :=
  p.tables.exec = Jvm.exec ∧ c.code = code ∧ meth.sig.returnType = ret ∧ c.maxLocals = 4 ∧ s.vm.findClass R_law = some m.cls ∧ (∀ w ∈ lw_tbl, w.before #[Value.ref b] s = true) ∧ va_X b L xs s s.heap ∧ b < s.heap.size ∧ meth.locks = false ∧ (Jvm.Cond.and given_1 narrow_1).before #[Value.ref b] s = true
theorem p_forget {o : TO} : (jXforget o).2.1 ≤ 8 := Nat.zero_le _
/-! two worlds that lie apart -/
theorem inW_map {ws : va_W} {q : Nat} : inW ws q ↔ q ∈ ws.map (·.1) := by
  constructor
  · rintro ⟨k, e, h⟩
    exact List.mem_map.mpr ⟨(q, e), List.mem_of_getElem? h, rfl⟩
  · intro h
    obtain ⟨⟨q2, e⟩, h1, h2⟩ := List.mem_map.mp h
    obtain ⟨k, hk⟩ := List.getElem?_of_mem h1
    have h3 : q2 = q := h2
    subst h3
    exact ⟨k, e, hk⟩
/-- a world beside the one that a call wrote stands -/
theorem P_kept {D : va_G} {cl : List vw_C} {M X : va_W} {H H1 : Heap} (hP : va_P D cl M H) (hk : ∀ q : Nat, q < H.size → ¬ inW X q → H1[q]? = H[q]?) (hx : ∀ q, q ∈ M.map (·.1) → ¬ q ∈ X.map (·.1)) : va_P D cl M H1 :=
  hP.kept (fun k q hq => hk q.1 (hP k q hq).lt (fun z => hx q.1 (inW_map.mp ⟨k, q.2, hq⟩) (inW_map.mp z)))
def adX (a : Nat → Nat) (cI : ClassId) : List Nat := (wX a cI N0 f0 S0 f0 q0' w0' o0' f0 r0' t0' b0' f0 f0 k0').map (·.1)
def adM (am : Nat → Nat) (cI cZ : ClassId) : List Nat := (wM am cI cZ N0 S0 q0' o0' r0' t0' b0' k0' z0').map (·.1)
theorem wX_ad {a : Nat → Nat} {cI : ClassId} {N : TN} {pb : Nat → Int32} {S : TS} {sb : Nat → Int32} {q : TQ} {w : Nat × (Nat → Int32) × Int32 × Int32} {o : TO} {wy : Nat → Int32} {ro : TR} {t : TT} {fo : TF} {tr be : Nat → Int32} {k : TC} : (wX a cI N pb S sb q w o wy ro t fo tr be k).map (·.1) = adX a cI := rfl
theorem wM_ad {am : Nat → Nat} {cI cZ : ClassId} {N : TN} {S : TS} {q : TQ} {o : TO} {ro : TR} {t : TT} {fo : TF} {k : TC} {z : TZ} : (wM am cI cZ N S q o ro t fo k z).map (·.1) = adM am cI cZ := rfl
/-- the two worlds' addresses: apart, new -/
def lw_D (A : Nat → Prop) (a am : Nat → Nat) (cI cZ : ClassId) : Prop := va_D A (wX a cI N0 f0 S0 f0 q0' w0' o0' f0 r0' t0' b0' f0 f0 k0') ∧ va_D A (wM am cI cZ N0 S0 q0' o0' r0' t0' b0' k0' z0') ∧ ∀ q, q ∈ adX a cI → ¬ q ∈ adM am cI cZ
section ZD
variable {A : Nat → Prop} {a am : Nat → Nat} {cI cZ : ClassId} {N : TN} {pb : Nat → Int32} {S : TS} {sb : Nat → Int32} {q : TQ} {w : Nat × (Nat → Int32) × Int32 × Int32} {o : TO} {wy : Nat → Int32} {ro : TR} {t : TT} {fo : TF} {tr be : Nat → Int32} {k : TC} {z : TZ}
variable {N2 : TN} {pb2 : Nat → Int32} {S2 : TS} {sb2 : Nat → Int32} {q2 : TQ} {w2 : Nat × (Nat → Int32) × Int32 × Int32} {o2 : TO} {wy2 : Nat → Int32} {ro2 : TR} {t2 : TT} {fo2 : TF} {tr2 be2 : Nat → Int32} {k2 : TC} {z2 : TZ}
theorem lw_D.X (h : lw_D A a am cI cZ) : va_D A (wX a cI N pb S sb q w o wy ro t fo tr be k) := D_put h.1 wX_ad
theorem lw_D.M (h : lw_D A a am cI cZ) : va_D A (wM am cI cZ N S q o ro t fo k z) := D_put h.2.1 wM_ad
theorem lw_D.XM (h : lw_D A a am cI cZ) : ∀ y, y ∈ (wX a cI N pb S sb q w o wy ro t fo tr be k).map (·.1) → ¬ y ∈ (wM am cI cZ N2 S2 q2 o2 ro2 t2 fo2 k2 z2).map (·.1) := by
  rw [wX_ad, wM_ad]; exact h.2.2
theorem lw_D.MX (h : lw_D A a am cI cZ) : ∀ y, y ∈ (wM am cI cZ N S q o ro t fo k z).map (·.1) → ¬ y ∈ (wX a cI N2 pb2 S2 sb2 q2 w2 o2 wy2 ro2 t2 fo2 tr2 be2 k2).map (·.1) := by
  rw [wX_ad, wM_ad]; exact fun y h1 h2 => h.2.2 y h2 h1
end ZD
/-- what holds of the state between two calls -/
abbrev IV (N : TN) (pb : Nat → Int32) (S : TS) (sb : Nat → Int32) (q : TQ) (w : Nat × (Nat → Int32) × Int32 × Int32) (o : TO) (ro : TR) (t : TT) (zf : Nat → Nat) (fo : TF) (k : TC) : Prop := IVN N pb ∧ IVS N S sb q ∧ IVQ q ∧ w.1 ≤ 31 ∧ o.1 ≤ 8 ∧ IVR N ro ∧ IVT N t zf ∧ IVF fo ∧ IVK k
/-- what stands for the whole of the law -/
abbrev lw_C (p : Program) (s : State) (m : MethodId) (meth : Method) (c : Code) (b L : Nat) (xs : Nat → Int32) (D : va_G) (cI cZ : ClassId) : Prop := p.tables.exec = Jvm.exec ∧ c.code = code ∧ c.maxLocals = 4 ∧ s.vm.findClass RL = some m.cls ∧ (∀ w ∈ big, w.before #[Value.ref b] s = true) ∧ va_X b L xs s s.heap ∧ b < s.heap.size ∧ L ≤ 3584 ∧ KX D cI cZ s
section LW
variable {p : Program} {l : Launch} {e : Env} {s : State} {m : MethodId} {below : List Frame} {meth : Method} {c : Code} {b L : Nat} {xs : Nat → Int32} {H : Heap} {locs : List Loc} {cells slots : Nat} {Q : State → Prop} {ls : Array Slot} {rest : List Value} {a0 m0 i : Nat} {pc : Nat} {A : Nat → Prop}
theorem lw_arg (hx : p.tables.exec = Jvm.exec) (hb : c.code = code) (hX : va_X b L xs s s.heap) (hbl : b < s.heap.size) (hbA : ¬ A b) (hS : va_S A s.heap H locs) (hl : lv_has ls 4 [(0, .ref b), (1, .ref a0), (2, .ref m0), (3, .int (nI i))]) (hL : L ≤ 3584) (k : Nat) (hk : i + k < L) {n : Int} (hv : Int32.ofInt n = nI k)
    (d0 : decode code pc = .ok (.aload_n 0, 1)) (d1 : decode code (pc + 1) = .ok (.iload_n 3, 1)) (d2 : decode code (pc + 2) = .ok (.iconst n, 1)) (d3 : decode code (pc + 3) = .ok (.iadd, 1)) (d4 : decode code (pc + 4) = .ok (.iaload, 1))
    (kk : W p l e room_1 s m #[Value.ref b] below meth c H locs cells slots Q (F0 m (pc + 5) ls (.int (xs (i + k)) :: rest))) : W p l e room_1 s m #[Value.ref b] below meth c H locs cells slots Q (F0 m pc ls rest) := by
  refine lv_aload_n hx hb d0 rfl (lv_at hl 0 rfl) ?_
  refine lv_iload_n hx hb d1 rfl (lv_at hl 3 rfl) ?_
  refine lv_iconst (v := nI k) hx hb d2 hv ?_
  refine lv_iadd hx hb d3 ?_
  rw [nI_add]
  refine va_sld hx hb hX hbl hbA hS (vp_in_nI hk (by omega)) d4 ?_
  rw [nI_cl (by omega)]
  exact kk
theorem lw_arg6 (hx : p.tables.exec = Jvm.exec) (hb : c.code = code) (hX : va_X b L xs s s.heap) (hbl : b < s.heap.size) (hbA : ¬ A b) (hS : va_S A s.heap H locs) (hl : lv_has ls 4 [(0, .ref b), (1, .ref a0), (2, .ref m0), (3, .int (nI i))]) (hL : L ≤ 3584) (k : Nat) (hk : i + k < L) {n : Int} (hv : (Int8.ofInt n).toInt32 = nI k)
    (d0 : decode code pc = .ok (.aload_n 0, 1)) (d1 : decode code (pc + 1) = .ok (.iload_n 3, 1)) (d2 : decode code (pc + 2) = .ok (.bipush n, 2)) (d3 : decode code (pc + 4) = .ok (.iadd, 1)) (d4 : decode code (pc + 5) = .ok (.iaload, 1))
    (kk : W p l e room_1 s m #[Value.ref b] below meth c H locs cells slots Q (F0 m (pc + 6) ls (.int (xs (i + k)) :: rest))) : W p l e room_1 s m #[Value.ref b] below meth c H locs cells slots Q (F0 m pc ls rest) := by
  refine lv_aload_n hx hb d0 rfl (lv_at hl 0 rfl) ?_
  refine lv_iload_n hx hb d1 rfl (lv_at hl 3 rfl) ?_
  refine lv_bipush (v := nI k) hx hb d2 hv ?_
  refine lv_iadd hx hb d3 ?_
  rw [nI_add]
  refine va_sld hx hb hX hbl hbA hS (vp_in_nI hk (by omega)) d4 ?_
  rw [nI_cl (by omega)]
  exact kk
/-- a number that is not 0 -/
def lw_z (x : Int32) : Int32 := if x = 0 then 0 else 1
theorem lw_z01 (x : Int32) : lw_z x = 0 ∨ lw_z x = 1 := by
  unfold lw_z; split
  · exact Or.inl rfl
  · exact Or.inr rfl
theorem lw_bool (hx : p.tables.exec = Jvm.exec) (hb : c.code = code) {x : Int32} (d0 : decode code pc = .ok (.ifCond .eq 7, 3)) (d1 : decode code (pc + 3) = .ok (.iconst 1, 1)) (d2 : decode code (pc + 4) = .ok (.goto 4, 3)) (d3 : decode code (pc + 7) = .ok (.iconst 0, 1))
    (kk : W p l e room_1 s m #[Value.ref b] below meth c H locs cells slots Q (F0 m (pc + 8) ls (.int (lw_z x) :: rest))) : W p l e room_1 s m #[Value.ref b] below meth c H locs cells slots Q (F0 m pc ls (.int x :: rest)) := by
  refine lv_if_eq (tgt := pc + 7) hx hb d0 (by omega) (fun h => ?_) (fun h => ?_)
  · refine lv_iconst (v := 0) hx hb d3 (by decide) ?_
    rw [show lw_z x = 0 from if_pos h] at kk
    exact kk
  · refine lv_iconst (v := 1) hx hb d1 (by decide) ?_
    refine lv_goto (tgt := pc + 8) hx hb d2 (by omega) ?_
    rw [show lw_z x = 1 from if_neg h] at kk
    exact kk
end LW
