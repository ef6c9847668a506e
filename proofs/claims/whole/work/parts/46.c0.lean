theorem kx_ci {D : va_G} {cI cZ cA : ClassId} {s : State} (h0 : KX D cI cZ s) (h : va_K D vwCl ([(cI, .int), (cZ, .boolean)] ++ [(cA, .int)]) s) : cA = cI :=
  Option.some.inj ((h.2 2 (cA, .int) rfl).2.symm.trans (h0.1.2 0 (cI, .int) rfl).2)
theorem kx_cz {D : va_G} {cI cZ cA : ClassId} {s : State} (h0 : KX D cI cZ s) (h : va_K D vwCl ([(cI, .int), (cZ, .boolean)] ++ [(cA, .boolean)]) s) : cA = cZ :=
  Option.some.inj ((h.2 2 (cA, .boolean) rfl).2.symm.trans (h0.1.2 1 (cZ, .boolean) rfl).2)
section KN
variable {p : Program} {l : Launch} {e : Env} {R : Room} {s : State} {m : MethodId} {args : Array Value} {below : List Frame} {meth : Method} {c : Code} {H : Heap} {locs : List Loc} {cells slots : Nat} {Q : State → Prop} {pc : Nat} {ls : Array Slot} {rest : List Value} {A : Nat → Prop} {H0 : Heap} {D : va_G} {cI cZ : ClassId} {ws : va_W} {cc : ByteArray}
theorem kx_newI (hexec : p.tables.exec = Jvm.exec) (hb : c.code = cc) (hts : ∀ w ∈ big, w.before args s = true) (hK : KX D cI cZ s) (hP : va_P D vwCl ws H) (hD : va_D A ws) (hS : va_S A H0 H locs) (hA : ∀ q, H0.size ≤ q → A q) {n : Nat} (hn : n ≤ 2000) (hcells : cells + 1 ≤ R.cells) (hslots : slots + n ≤ R.slots) (hdg : decode cc pc = .ok (.newarray .int, 2))
    (kk : ∀ (q : Nat) (H1 : Heap), va_P D vwCl (ws ++ [(q, .inl (cI, (n, .inl (fun _ => 0))))]) H1 → va_D A (ws ++ [(q, .inl (cI, (n, .inl (fun _ => 0))))]) → va_S A H0 H1 locs →
      W p l e R s m args below meth c H1 locs (cells + 1) (slots + n) Q (F0 m (pc + 2) ls (.ref q :: rest))) : W p l e R s m args below meth c H locs cells slots Q (F0 m pc ls (.int (nI n) :: rest)) := by
  refine va_newa (atype := .int) (ty := .int) (a0 := (n, .inl (fun _ => 0))) hexec hb (hts _ kx_arrI) rfl hK.1 hP hD hS hA (fun cA => rfl) (nI_pos (by omega)) (nI_cl (by omega)) (show n * 4 ≤ 536870912 by omega) hcells hslots hdg (fun q cA H1 hK1 hP1 hD1 hS1 => ?_)
  have e := kx_ci hK hK1
  rw [e] at hP1 hD1
  exact kk q H1 hP1 hD1 hS1
theorem kx_newZ (hexec : p.tables.exec = Jvm.exec) (hb : c.code = cc) (hts : ∀ w ∈ big, w.before args s = true) (hK : KX D cI cZ s) (hP : va_P D vwCl ws H) (hD : va_D A ws) (hS : va_S A H0 H locs) (hA : ∀ q, H0.size ≤ q → A q) {n : Nat} (hn : n ≤ 2000) (hcells : cells + 1 ≤ R.cells) (hslots : slots + n ≤ R.slots) (hdg : decode cc pc = .ok (.newarray .boolean, 2))
    (kk : ∀ (q : Nat) (H1 : Heap), va_P D vwCl (ws ++ [(q, .inl (cZ, (n, .inl (fun _ => 0))))]) H1 → va_D A (ws ++ [(q, .inl (cZ, (n, .inl (fun _ => 0))))]) → va_S A H0 H1 locs →
      W p l e R s m args below meth c H1 locs (cells + 1) (slots + n) Q (F0 m (pc + 2) ls (.ref q :: rest))) : W p l e R s m args below meth c H locs cells slots Q (F0 m pc ls (.int (nI n) :: rest)) := by
  refine va_newa (atype := .boolean) (ty := .boolean) (a0 := (n, .inl (fun _ => 0))) hexec hb (hts _ kx_arrZ) rfl hK.1 hP hD hS hA (fun cA => rfl) (nI_pos (by omega)) (nI_cl (by omega)) (show n * 1 ≤ 536870912 by omega) hcells hslots hdg (fun q cA H1 hK1 hP1 hD1 hS1 => ?_)
  have e := kx_cz hK hK1
  rw [e] at hP1 hD1
  exact kk q H1 hP1 hD1 hS1
end KN
abbrev cvP (D : va_G) (cI cZ : ClassId) (av : List Value) (ws : va_W) (sz : Nat) : Array Value → State → Prop := va_Pc av (fun U => U.heap.size = sz ∧ KX D cI cZ U ∧ va_P D vwCl ws U.heap ∧ va_D (fun _ => True) ws)
abbrev CV {S : Type} (l : Launch) (D : va_G) (cI cZ : ClassId) (y : MethodName) (cds : List Cond) (rm : Room) (av : List Value) (ws : va_W) (sz : Nat) (wf : S → va_W) (mc ms : Nat) : Prop :=
  Met l y cds rm (cvP D cI cZ av ws sz) (va_Qv (fun _ : S => True) (fun u t => va_P D vwCl (wf u) t.heap ∧ va_D (va_A ws sz) (wf u)) (va_A ws sz)) mc ms (va_A ws sz)
abbrev CR {S : Type} (l : Launch) (D : va_G) (cI cZ : ClassId) (y : MethodName) (cds : List Cond) (rm : Room) (av : List Value) (ws : va_W) (sz : Nat) (r : Nat) (w1 : va_W) : Prop :=
  Met l y cds rm (cvP D cI cZ av ws sz) (va_Qr (fun _ : S => True) (fun _ a t => a = r ∧ va_P D vwCl w1 t.heap ∧ va_D (va_A ws sz) w1) (va_A ws sz)) 0 0 (va_A ws sz)
theorem cv_pre {D : va_G} {cI cZ : ClassId} {s : State} {H : Heap} {av : List Value} {ws : va_W} (hK : KX D cI cZ s) (hP : va_P D vwCl ws H) (hD : va_D (fun _ => True) ws) : PreS s H (cvP D cI cZ av ws H.size) av :=
  ⟨fun a U g mk q => ⟨q.1, q.2.1, q.2.2.1.calling g mk a, q.2.2.2⟩, fun U hU hW => ⟨rfl, by rw [hU], hK.warm hW, by rw [hU]; exact hP, hD⟩⟩
set_option maxHeartbeats 4000000 in
set_option maxRecDepth 100000 in
theorem c_X5_init (l : Launch) (D : va_G) (cI cZ : ClassId) (h0 sz n : Nat) (hn : n ≤ 2000) : CV l D cI cZ yX5_init wyX5_init ({ frames := 1, cells := 1, slots := n, locals := 22 } : Room) [.ref h0, .int (nI n)] [(h0, .inr (5, [.null, .int 0]))] sz (fun u : Nat => [(h0, .inr (5, [.ref u, .int 0])), (u, .inl (cI, (n, .inl (fun _ => 0))))]) 1 n := by
  refine Met.ofW (cc := cX5_init) (maxL := 2) (ret := none) (by decide) rfl ?_
  intro p e s m args below meth c s₁ B hml hv
  obtain ⟨rfl, hsz, hK, hP, hD0⟩ := hv
  have hx := B.exec
  have hb := B.bytes
  have hr := B.returns
  have hts0 := atoms_spec (ws := wyX5_init) B.pre
  have hts : ∀ w ∈ big, w.before _ s = true := fun w h => hts0 w (List.mem_cons_of_mem _ h)
  have hown : s.vm.findClass RX5 = some m.cls := findClass_of_methodNamed B.named
  have hlocks := B.notSynchronized
  have hin : meth.name = "<init>" := (name_of_methodNamed B.named B.method).1
  subst hsz
  have hD := hD0.self (sz := s.heap.size)
  generalize hAe : va_A [(h0, .inr (5, [.null, .int 0]))] s.heap.size = A at hD ⊢
  have hA : ∀ q : Nat, s.heap.size ≤ q → A q := fun q h => by rw [← hAe]; exact Or.inr h
  have hS : va_S A s.heap s.heap [] := va_S.rf
  have hl := lv_entry ([.ref h0, .int (nI n)]) (n := 2) (Nat.le_of_ble_eq_true rfl)
  rw [lg_entry_eq]
  generalize (lg_sl ([.ref h0, .int (nI n)]) ++ List.replicate (2 - (lg_sl ([.ref h0, .int (nI n)])).length) Slot.unset).toArray = ls at hl ⊢
  have hl : lv_has ls 2 [(0, .ref h0), (1, .int (nI n))] := hl
  refine lv_aload_n hx hb dX5_init_0 rfl (lv_at hl 0 rfl) ?_
  refine W.objInit hx hb hown (hts _ ml_X5_3) (hts _ kx_oi) (hts _ kx_oc) rfl (by rw [hml]; exact hl.1) rfl dX5_init_1 (Nat.le_of_ble_eq_true rfl) (Nat.le_of_ble_eq_true rfl) ?_
  refine W.eq (g2 := F0 m 4 ls []) rfl ?_
  refine lv_aload_n hx hb dX5_init_4 rfl (lv_at hl 0 rfl) ?_
  refine lv_iload_n hx hb dX5_init_5 rfl (lv_at hl 1 rfl) ?_
  refine lv_if_ge (tgt := 13) hx hb dX5_init_6 (by decide) (fun c_1 => ?_) (fun c_1 => absurd (Int32.not_lt.mp (nI_pos (by omega))) c_1)
  refine lv_iload_n hx hb dX5_init_13 rfl (lv_at hl 1 rfl) ?_
  refine kx_newI hx hb hts hK hP hD hS hA hn (Nat.le_refl 1) (by rw [Nat.zero_add]; exact Nat.le_refl _) dX5_init_14 (fun u H hP hD hS => ?_)
  have hP : va_P D vwCl [(h0, .inr (5, [.null, .int 0])), (u, .inl (cI, (n, .inl (fun _ => 0))))] H := hP
  have hD : va_D A [(h0, .inr (5, [.null, .int 0])), (u, .inl (cI, (n, .inl (fun _ => 0))))] := hD
  refine va_putF (D := D) (ci := 5) (v := .ref u) (ty := .array .int) (C := RX5) (T := TX5) (N := 2) hx hb hts hin5 tyX5 tyX5_ok nmX5 hown hK.1 hP hD hS 0 rfl rfl 0 (by decide) (hts _ fl_X5_9) (fun _ h9 => h9) rfl hin rfl (by decide +kernel) rfl rfl (Nat.le_of_ble_eq_true rfl) dX5_init_16 (fun H locs hP hD hS => ?_)
  have hP : va_P D vwCl [(h0, .inr (5, [.ref u, .int 0])), (u, .inl (cI, (n, .inl (fun _ => 0))))] H := hP
  have hD : va_D A [(h0, .inr (5, [.ref u, .int 0])), (u, .inl (cI, (n, .inl (fun _ => 0))))] := hD
  refine W.widen (k := 1) (n := n) (Nat.le_refl 1) (by rw [Nat.zero_add]; exact Nat.le_refl _) ?_
  exact W.vret hx hb hr (fun t ht hW => ⟨⟨u, rfl, trivial, by rw [ht]; exact hP, hD⟩, hS.F ht⟩) hS.2.2 dX5_init_19