/-! the words that all methods need, in one list; nest words; contracts that only read, contracts that write -/
abbrev big : List Cond := wsL_law
theorem big_self : GoodIn big big := fun w h => ⟨h, (big_G w h).2⟩
theorem big_code {y : MethodName} {c : ByteArray} {n : Nat} {r : Option FieldType} (h : Cond.code y c n r ∈ big) : GoodIn big (.code y c n r :: big) := fun w hw => (List.mem_cons.mp hw).elim (fun e => by rw [e]; exact big_self _ h) (big_self w)
def nwL : List (String × Nat × MethodName) := [("TwigsAndStones", 61, yX1_init), ("TwigsAndStones", 68, yX0_init), ("TwigsAndStones", 9, yX2_init), (RX0, 56, yX9_bitOf), (RX2, 47, yX9_bitOf), (RX2, 54, yX9_isPlace), (RX3, 77, yX9_bitOf), (RX4, 74, yX9_bitOf), (RX6, 90, yX9_bitOf), (RX6, 93, yX9_isOfPath), (RX8, 52, yX9_bitOf)]
def nwc (q : String × Nat × MethodName) : Cond := .methodLinkNest q.1 q.2.1 q.2.2 "TwigsAndStones"
def KX (D : va_G) (cI cZ : ClassId) (U : State) : Prop := va_K D vwCl [(cI, .int), (cZ, .boolean)] U ∧ ∀ q ∈ nwL, va_Nw (nwc q) U
theorem KX.warm {D : va_G} {cI cZ : ClassId} {s U : State} (h : KX D cI cZ s) (hW : s.WarmedH U.vm) : KX D cI cZ U := ⟨va_K.moved hW.alike h.1, fun q hq => va_Nw.warmM hW (h.2 q hq)⟩
theorem KX.calling {D : va_G} {cI cZ : ClassId} {U : State} (h : KX D cI cZ U) (g : JFrame) (mk : MethodId) (a : Array Value) : KX D cI cZ (U.calling g mk a) := ⟨va_K.moved (u := U) (U := U.calling g mk a) (Vm.Alike.refl U.vm) h.1, fun q hq => va_Nw.same (w := nwc q) rfl (u := U) rfl (h.2 q hq)⟩
abbrev roP (D : va_G) (cI cZ : ClassId) (av : List Value) (ws : va_W) : Array Value → State → Prop := va_Pc av (fun U => KX D cI cZ U ∧ va_P D vwCl ws U.heap)
abbrev RO (l : Launch) (D : va_G) (cI cZ : ClassId) (y : MethodName) (cds : List Cond) (rm : Room) (av : List Value) (ws : va_W) (r : Int32) : Prop := Met l y cds rm (roP D cI cZ av ws) (QcRead r) 0 0 (fun _ => False)
def inW (ws : va_W) : Nat → Prop := fun q => ∃ (k : Nat) (e : va_E), ws[k]? = some (q, e)
abbrev muP (D : va_G) (cI cZ : ClassId) (av : List Value) (ws : va_W) : Array Value → State → Prop := va_Pc av (fun U => KX D cI cZ U ∧ va_P D vwCl ws U.heap ∧ va_D (fun _ => True) ws)
def QcMi {S : Type} (D : va_G) (ws : va_W) (post : Int32 → S → Prop) (wf : S → va_W) : Array Value → State → Outcome → State → Prop := fun _ st o t => (∃ (r : Int32) (u : S), o = .returned (some (.int r)) ∧ post r u ∧ va_P D vwCl (wf u) t.heap) ∧ va_F (inW ws) st t
def QcMv {S : Type} (D : va_G) (ws : va_W) (post : S → Prop) (wf : S → va_W) : Array Value → State → Outcome → State → Prop := fun _ st o t => (∃ u : S, o = .returned none ∧ post u ∧ va_P D vwCl (wf u) t.heap) ∧ va_F (inW ws) st t
abbrev MI {S : Type} (l : Launch) (D : va_G) (cI cZ : ClassId) (y : MethodName) (cds : List Cond) (rm : Room) (av : List Value) (ws : va_W) (post : Int32 → S → Prop) (wf : S → va_W) : Prop := Met l y cds rm (muP D cI cZ av ws) (QcMi D ws post wf) 0 0 (inW ws)
abbrev MV {S : Type} (l : Launch) (D : va_G) (cI cZ : ClassId) (y : MethodName) (cds : List Cond) (rm : Room) (av : List Value) (ws : va_W) (post : S → Prop) (wf : S → va_W) : Prop := Met l y cds rm (muP D cI cZ av ws) (QcMv D ws post wf) 0 0 (inW ws)
theorem ro_pre {D : va_G} {cI cZ : ClassId} {s : State} {H : Heap} {av : List Value} {ws : va_W} (hK : KX D cI cZ s) (hP : va_P D vwCl ws H) : PreS s H (roP D cI cZ av ws) av :=
  ⟨fun a U g mk q => ⟨q.1, q.2.1.calling g mk a, q.2.2⟩, fun U hU hW => ⟨rfl, hK.warm hW, by rw [hU]; exact hP⟩⟩
theorem mu_pre {D : va_G} {cI cZ : ClassId} {s : State} {H : Heap} {av : List Value} {ws : va_W} (hK : KX D cI cZ s) (hP : va_P D vwCl ws H) (hD : va_D (fun _ => True) ws) : PreS s H (muP D cI cZ av ws) av :=
  ⟨fun a U g mk q => ⟨q.1, q.2.1.calling g mk a, q.2.2⟩, fun U hU hW => ⟨rfl, hK.warm hW, by rw [hU]; exact hP, hD⟩⟩
theorem P_nil {D : va_G} {cl : List vw_C} {H : Heap} : va_P D cl [] H := fun k q h => by simp at h
theorem D_inW {A : Nat → Prop} {ws : va_W} (h : va_D A ws) : va_D (inW ws) ws := ⟨h.1, fun k q hk => ⟨k, q.2, hk⟩⟩
/-- the callee's cells at the places 'is' are now w1; the others stand -/
theorem P_put {A : Nat → Prop} {D : va_G} {cl : List vw_C} {ws wc w1 ws' : va_W} {H H1 : Heap} (hP : va_P D cl ws H) (hD : va_D A ws) (is isR : List Nat)
    (hC : is.map (fun i => ws[i]?) = wc.map some) (h1 : is.map (fun i => ws'[i]?) = w1.map some) (hA1 : w1.map (·.1) = wc.map (·.1)) (hR : isR.map (fun i => ws'[i]?) = isR.map (fun i => ws[i]?))
    (hn : (List.range ws'.length).all (fun i => decide (i ∈ is) || decide (i ∈ isR)) = true) (hdis : is.all (fun i => !decide (i ∈ isR)) = true)
    (hlen : isR.all (fun i => decide (i < ws.length)) = true)
    (hP1 : va_P D cl w1 H1) (hk : ∀ q : Nat, q < H.size → ¬ inW wc q → H1[q]? = H[q]?) : va_P D cl ws' H1 := by
  intro k q hq
  have hkl : k < ws'.length := (List.getElem?_eq_some_iff.mp hq).1
  have hk2 := List.all_eq_true.mp hn k (List.mem_range.mpr hkl)
  simp only [Bool.or_eq_true, decide_eq_true_eq] at hk2
  have pos : ∀ {α : Type} (is : List Nat) (f : Nat → Option α) (l : List α), is.map f = l.map some → ∀ k ∈ is, ∃ (j : Nat) (x : α), f k = some x ∧ l[j]? = some x ∧ is[j]? = some k := by
    intro α is f l h k hk
    obtain ⟨j, hj⟩ := List.getElem?_of_mem hk
    have e := congrArg (fun l => l[j]?) h
    simp only [List.getElem?_map, hj, Option.map_some] at e
    cases hx : l[j]? with
    | none => rw [hx] at e; simp at e
    | some x => rw [hx] at e; exact ⟨j, x, by simpa using e, hx, hj⟩
  by_cases hin : k ∈ is
  · obtain ⟨j, x, e1, e2, -⟩ := pos is _ w1 h1 k hin
    rw [hq] at e1
    obtain rfl := Option.some.inj e1
    exact hP1 j _ e2
  · have hr : k ∈ isR := hk2.resolve_left hin
    have hq0 : ws[k]? = some q := by
      obtain ⟨j, hj⟩ := List.getElem?_of_mem hr
      have e := congrArg (fun l => l[j]?) hR
      simp only [List.getElem?_map, hj, Option.map_some] at e
      rw [← hq]; exact (Option.some.inj e).symm
    refine (hP k q hq0).kept (hk q.1 (hP k q hq0).lt ?_)
    rintro ⟨j, e, hj⟩
    have e := congrArg (fun l => l[j]?) hC
    simp only [List.getElem?_map, hj, Option.map_some] at e
    cases hi : is[j]? with
    | none => rw [hi] at e; simp at e
    | some i =>
      rw [hi] at e
      have hwi := Option.some.inj e
      have hik := hD.1 i k _ _ hwi hq0 rfl
      subst hik
      exact hin (List.mem_of_getElem? hi)
theorem D_put {A : Nat → Prop} {ws ws' : va_W} (hD : va_D A ws) (h : ws'.map (·.1) = ws.map (·.1)) : va_D A ws' := by
  have g : ∀ (k : Nat) (q : Nat × va_E), ws'[k]? = some q → ∃ q0, ws[k]? = some q0 ∧ q0.1 = q.1 := by
    intro k q hq
    have e := congrArg (fun l => l[k]?) h
    simp only [List.getElem?_map, hq, Option.map_some] at e
    cases hx : ws[k]? with
    | none => rw [hx] at e; simp at e
    | some x => rw [hx] at e; exact ⟨x, rfl, by simpa using e.symm⟩
  refine ⟨fun i j p q hp hq hpq => ?_, fun k q hq => ?_⟩
  · obtain ⟨p0, a1, a2⟩ := g i p hp
    obtain ⟨q0, b1, b2⟩ := g j q hq
    exact hD.1 i j p0 q0 a1 b1 (by rw [a2, b2, hpq])
  · obtain ⟨q0, a1, a2⟩ := g k q hq
    rw [← a2]; exact hD.2 k q0 a1
theorem inW_of {wc ws : va_W} {A : Nat → Prop} (hD : va_D A ws) (is : List Nat) (hC : is.map (fun i => ws[i]?) = wc.map some) : ∀ q, inW wc q → A q := by
  rintro q ⟨j, e, hj⟩
  have e := congrArg (fun l => l[j]?) hC
  simp only [List.getElem?_map, hj, Option.map_some] at e
  cases hi : is[j]? with
  | none => rw [hi] at e; simp at e
  | some i => rw [hi] at e; exact hD.2 i _ (Option.some.inj e)
section Z1
variable {p : Program} {l : Launch} {e : Env} {R : Room} {s : State} {m : MethodId} {args : Array Value} {below : List Frame} {meth : Method} {c : Code} {H : Heap} {locs : List Loc} {cells slots : Nat} {Q : State → Prop}
variable {y : MethodName} {bytes cc : ByteArray} {maxL nL n index pc : Nat} {ret : Option FieldType} {cds : List Cond} {rm : Room} {Ts : List Cond} {own C : String} {b : Addr} {As rest st : List Value} {ls : Array Slot} {g : JFrame}
variable {D : va_G} {cI cZ : ClassId} {wc : va_W}
theorem W.callRv {r : Int32} {a : Array Value} (hr : va_Run p l e R s m args below meth c H locs cells slots 0 0 g rest (QcRead r a) (fun _ => False)) (kk : W p l e R s m args below meth c H locs cells slots Q { g with pc := g.pc + 3, stack := .int r :: rest }) : W p l e R s m args below meth c H locs cells slots Q g := by
  intro T hT X
  obtain ⟨v, st₀, t, T', L, h0, X', hL, e1, -, ⟨hv, hh⟩, st⟩ := hr T hT X
  cases hv
  obtain ⟨t2, a1, b1⟩ := kk T' (by rw [e1, hh, h0]) (Stand.forget X' (fun q h => (hL q h).elim))
  exact ⟨t2, st t2 a1, b1⟩
theorem W.callMi {S : Type} {post : Int32 → S → Prop} {wf : S → va_W} {a : Array Value} {A0 : Nat → Prop} {H0 : Heap} (hr : va_Run p l e R s m args below meth c H locs cells slots 0 0 g rest (QcMi D wc post wf a) (inW wc)) (hS : va_S A0 H0 H locs) (hf : ∀ q, inW wc q → A0 q)
    (kk : ∀ (r : Int32) (u : S) (H1 : Heap) (locs1 : List Loc), post r u → va_P D vwCl (wf u) H1 → (∀ q : Nat, q < H.size → ¬ inW wc q → H1[q]? = H[q]?) → va_S A0 H0 H1 locs1 → W p l e R s m args below meth c H1 locs1 cells slots Q { g with pc := g.pc + 3, stack := .int r :: rest }) : W p l e R s m args below meth c H locs cells slots Q g := by
  intro T hT X
  obtain ⟨v, st₀, t, T', L, h0, X', hL, e1, e2, ⟨⟨r, u, hv, hp, hb⟩, hz, hk⟩, st⟩ := hr T hT X
  cases hv
  rw [h0] at hz hk
  obtain ⟨t2, a1, b1⟩ := kk r u T'.heap (locs ++ L) hp (by rw [e1]; exact hb) (fun q h1 h2 => by rw [e1]; exact hk q h1 h2)
    ⟨Nat.le_trans hS.1 (by rw [e1]; exact hz), fun q h1 h2 => by rw [e1, hk q (Nat.lt_of_lt_of_le h1 hS.1) (fun z => h2 (hf q z))]; exact hS.2.1 q h1 h2, fun q hq => by
      rcases List.mem_append.mp hq with h | h
      · exact hS.2.2 q h
      · exact hf _ (hL q h)⟩ T' rfl X'
  exact ⟨t2, st t2 a1, b1⟩
theorem W.callMv {S : Type} {post : S → Prop} {wf : S → va_W} {a : Array Value} {A0 : Nat → Prop} {H0 : Heap} (hr : va_Run p l e R s m args below meth c H locs cells slots 0 0 g rest (QcMv D wc post wf a) (inW wc)) (hS : va_S A0 H0 H locs) (hf : ∀ q, inW wc q → A0 q)
    (kk : ∀ (u : S) (H1 : Heap) (locs1 : List Loc), post u → va_P D vwCl (wf u) H1 → (∀ q : Nat, q < H.size → ¬ inW wc q → H1[q]? = H[q]?) → va_S A0 H0 H1 locs1 → W p l e R s m args below meth c H1 locs1 cells slots Q { g with pc := g.pc + 3, stack := rest }) : W p l e R s m args below meth c H locs cells slots Q g := by
  intro T hT X
  obtain ⟨v, st₀, t, T', L, h0, X', hL, e1, e2, ⟨⟨u, hv, hp, hb⟩, hz, hk⟩, st⟩ := hr T hT X
  cases hv
  rw [h0] at hz hk
  obtain ⟨t2, a1, b1⟩ := kk u T'.heap (locs ++ L) hp (by rw [e1]; exact hb) (fun q h1 h2 => by rw [e1]; exact hk q h1 h2)
    ⟨Nat.le_trans hS.1 (by rw [e1]; exact hz), fun q h1 h2 => by rw [e1, hk q (Nat.lt_of_lt_of_le h1 hS.1) (fun z => h2 (hf q z))]; exact hS.2.1 q h1 h2, fun q hq => by
      rcases List.mem_append.mp hq with h | h
      · exact hS.2.2 q h
      · exact hf _ (hL q h)⟩ T' rfl X'
  exact ⟨t2, st t2 a1, b1⟩
theorem ro_V {r : Int32} (S : CallFix p m c cc nL s args Ts own) (hM : RO l D cI cZ y cds rm (.ref b :: As) wc r) (cw : CallW R s args own C index y bytes maxL ret cds rm 0 0 n) (hK : KX D cI cZ s) (hP : va_P D vwCl wc H) {ci : Nat} {fs : List Value} {T : u_T} {N : Nat} (he : wc[0]? = some (b, .inr (ci, fs))) (hc : vwCl[ci]? = some (C, T, N))
    (hn : As.length = n) (hsize : ls.size = nL) (hst : st = As.reverse ++ .ref b :: rest) (hroom : (rest.map fun v => v.category).sum ≤ 8) (hdg : decode cc pc = .ok (.invokevirtual index, 3)) (hf : cells ≤ R.cells ∧ slots ≤ R.slots)
    (kk : W p l e R s m args below meth c H locs cells slots Q (F0 m (pc + 3) ls (.int r :: rest))) : W p l e R s m args below meth c H locs cells slots Q (F0 m pc ls st) :=
  W.callRv (va_runV S hM cw ⟨(ro_pre hK hP).1, va_recv hK.1 hP hc he, (ro_pre hK hP).2⟩ rfl hn hsize hst (lv_room hroom) hdg hf) kk
theorem ro_S {r : Int32} (S : CallFix p m c cc nL s args Ts own) (hM : RO l D cI cZ y cds rm As wc r) (cw : CallB R s args own index y bytes maxL ret cds rm 0 0 n ∧ (Cond.static y).before args s = true) (hK : KX D cI cZ s) (hP : va_P D vwCl wc H)
    (hn : As.length = n) (hsize : ls.size = nL) (hst : st = As.reverse ++ rest) (hroom : (rest.map fun v => v.category).sum ≤ 8) (hdg : decode cc pc = .ok (.invokestatic index, 3)) (hf : cells ≤ R.cells ∧ slots ≤ R.slots)
    (kk : W p l e R s m args below meth c H locs cells slots Q (F0 m (pc + 3) ls (.int r :: rest))) : W p l e R s m args below meth c H locs cells slots Q (F0 m pc ls st) :=
  W.callRv (va_runS S hM cw (ro_pre hK hP) rfl hn hsize hst (lv_room hroom) hdg hf) kk
theorem ro_SN {host : String} {r : Int32} (S : CallFix p m c cc nL s args Ts own) (hM : RO l D cI cZ y cds rm As wc r) (cw : va_CN R s args own index y host bytes maxL ret cds rm 0 0 n ∧ (Cond.static y).before args s = true ∧ True) (hK : KX D cI cZ s) (hP : va_P D vwCl wc H)
    (hn : As.length = n) (hsize : ls.size = nL) (hst : st = As.reverse ++ rest) (hroom : (rest.map fun v => v.category).sum ≤ 8) (hdg : decode cc pc = .ok (.invokestatic index, 3)) (hf : cells ≤ R.cells ∧ slots ≤ R.slots)
    (kk : W p l e R s m args below meth c H locs cells slots Q (F0 m (pc + 3) ls (.int r :: rest))) : W p l e R s m args below meth c H locs cells slots Q (F0 m pc ls st) :=
  W.callRv (va_runSN S hM cw (ro_pre hK hP) rfl hn hsize hst (lv_room hroom) hdg hf) kk
theorem mi_V {S1 : Type} {post : Int32 → S1 → Prop} {wf : S1 → va_W} {A0 : Nat → Prop} {H0 : Heap} {ws : va_W} (S : CallFix p m c cc nL s args Ts own) (hM : MI l D cI cZ y cds rm (.ref b :: As) wc post wf) (cw : CallW R s args own C index y bytes maxL ret cds rm 0 0 n) (hK : KX D cI cZ s) (hP : va_P D vwCl ws H) (hD : va_D A0 ws) (hS : va_S A0 H0 H locs)
    (is isR : List Nat) (wn : S1 → va_W) (hC : is.map (fun i => ws[i]?) = wc.map some) (hnd : va_nd is = true) (h1 : ∀ u, is.map (fun i => (wn u)[i]?) = (wf u).map some) (hA1 : ∀ u, (wf u).map (·.1) = wc.map (·.1)) (hR : ∀ u, isR.map (fun i => (wn u)[i]?) = isR.map (fun i => ws[i]?)) (hA2 : ∀ u, (wn u).map (·.1) = ws.map (·.1))
    (hall : (List.range ws.length).all (fun i => decide (i ∈ is) || decide (i ∈ isR)) = true) (hdis : is.all (fun i => !decide (i ∈ isR)) = true) (hlen : isR.all (fun i => decide (i < ws.length)) = true)
    {ci : Nat} {fs : List Value} {T : u_T} {N : Nat} (he : wc[0]? = some (b, .inr (ci, fs))) (hc : vwCl[ci]? = some (C, T, N))
    (hn : As.length = n) (hsize : ls.size = nL) (hst : st = As.reverse ++ .ref b :: rest) (hroom : (rest.map fun v => v.category).sum ≤ 8) (hdg : decode cc pc = .ok (.invokevirtual index, 3)) (hf : cells ≤ R.cells ∧ slots ≤ R.slots)
    (kk : ∀ (r : Int32) (u : S1) (H1 : Heap) (locs1 : List Loc), post r u → va_P D vwCl (wn u) H1 → va_D A0 (wn u) → va_S A0 H0 H1 locs1 → W p l e R s m args below meth c H1 locs1 cells slots Q (F0 m (pc + 3) ls (.int r :: rest))) : W p l e R s m args below meth c H locs cells slots Q (F0 m pc ls st) := by
  have hPc : va_P D vwCl wc H := hP.sub is (by
    have : ∀ (l : List Nat) (w : va_W), l.map (fun i => ws[i]?) = w.map some → l.filterMap (fun i => ws[i]?) = w := by
      intro l
      induction l with
      | nil => intro w h; cases w with
        | nil => rfl
        | cons a t => simp at h
      | cons i l ih => intro w h; cases w with
        | nil => simp at h
        | cons a t =>
          simp only [List.map_cons, List.cons.injEq] at h
          rw [List.filterMap_cons, h.1, ih t h.2]
    exact this is wc hC)
  have hDc : va_D (fun _ => True) wc := (hD.sub is hnd hC).weaken (fun _ _ _ _ => trivial)
  refine W.callMi (va_runV S hM cw ⟨(mu_pre hK hPc hDc).1, va_recv hK.1 hPc hc he, (mu_pre hK hPc hDc).2⟩ rfl hn hsize hst (lv_room hroom) hdg hf) hS (inW_of hD is hC) (fun r u H1 locs1 hp hP1 hk hS1 => ?_)
  have hl2 : (wn u).length = ws.length := by have := congrArg List.length (hA2 u); simpa using this
  exact kk r u H1 locs1 hp (P_put hP hD is isR hC (h1 u) (hA1 u) (hR u) (by rw [hl2]; exact hall) hdis hlen hP1 hk) (D_put hD (hA2 u)) hS1
theorem mv_V {S1 : Type} {post : S1 → Prop} {wf : S1 → va_W} {A0 : Nat → Prop} {H0 : Heap} {ws : va_W} (S : CallFix p m c cc nL s args Ts own) (hM : MV l D cI cZ y cds rm (.ref b :: As) wc post wf) (cw : CallW R s args own C index y bytes maxL ret cds rm 0 0 n) (hK : KX D cI cZ s) (hP : va_P D vwCl ws H) (hD : va_D A0 ws) (hS : va_S A0 H0 H locs)
    (is isR : List Nat) (wn : S1 → va_W) (hC : is.map (fun i => ws[i]?) = wc.map some) (hnd : va_nd is = true) (h1 : ∀ u, is.map (fun i => (wn u)[i]?) = (wf u).map some) (hA1 : ∀ u, (wf u).map (·.1) = wc.map (·.1)) (hR : ∀ u, isR.map (fun i => (wn u)[i]?) = isR.map (fun i => ws[i]?)) (hA2 : ∀ u, (wn u).map (·.1) = ws.map (·.1))
    (hall : (List.range ws.length).all (fun i => decide (i ∈ is) || decide (i ∈ isR)) = true) (hdis : is.all (fun i => !decide (i ∈ isR)) = true) (hlen : isR.all (fun i => decide (i < ws.length)) = true)
    {ci : Nat} {fs : List Value} {T : u_T} {N : Nat} (he : wc[0]? = some (b, .inr (ci, fs))) (hc : vwCl[ci]? = some (C, T, N))
    (hn : As.length = n) (hsize : ls.size = nL) (hst : st = As.reverse ++ .ref b :: rest) (hroom : (rest.map fun v => v.category).sum ≤ 8) (hdg : decode cc pc = .ok (.invokevirtual index, 3)) (hf : cells ≤ R.cells ∧ slots ≤ R.slots)
    (kk : ∀ (u : S1) (H1 : Heap) (locs1 : List Loc), post u → va_P D vwCl (wn u) H1 → va_D A0 (wn u) → va_S A0 H0 H1 locs1 → W p l e R s m args below meth c H1 locs1 cells slots Q (F0 m (pc + 3) ls rest)) : W p l e R s m args below meth c H locs cells slots Q (F0 m pc ls st) := by
  have hPc : va_P D vwCl wc H := hP.sub is (by
    have : ∀ (l : List Nat) (w : va_W), l.map (fun i => ws[i]?) = w.map some → l.filterMap (fun i => ws[i]?) = w := by
      intro l
      induction l with
      | nil => intro w h; cases w with
        | nil => rfl
        | cons a t => simp at h
      | cons i l ih => intro w h; cases w with
        | nil => simp at h
        | cons a t =>
          simp only [List.map_cons, List.cons.injEq] at h
          rw [List.filterMap_cons, h.1, ih t h.2]
    exact this is wc hC)
  have hDc : va_D (fun _ => True) wc := (hD.sub is hnd hC).weaken (fun _ _ _ _ => trivial)
  refine W.callMv (va_runV S hM cw ⟨(mu_pre hK hPc hDc).1, va_recv hK.1 hPc hc he, (mu_pre hK hPc hDc).2⟩ rfl hn hsize hst (lv_room hroom) hdg hf) hS (inW_of hD is hC) (fun u H1 locs1 hp hP1 hk hS1 => ?_)
  have hl2 : (wn u).length = ws.length := by have := congrArg List.length (hA2 u); simpa using this
  exact kk u H1 locs1 hp (P_put hP hD is isR hC (h1 u) (hA1 u) (hR u) (by rw [hl2]; exact hall) hdis hlen hP1 hk) (D_put hD (hA2 u)) hS1
/-- two roads that meet; a loop, the heap as it is; a loop that writes -/
theorem w_join {α : Type} (I : α → Prop) (lv : α → List (Nat × Value)) (stk : α → List Value) (pcJ nL : Nat) (k1 : (∀ (a : α) (ls : Array Slot), I a → lv_has ls nL (lv a) → W p l e R s m args below meth c H locs cells slots Q (F0 m pcJ ls (stk a))) → W p l e R s m args below meth c H locs cells slots Q g)
    (k2 : ∀ (a : α) (ls : Array Slot), I a → lv_has ls nL (lv a) → W p l e R s m args below meth c H locs cells slots Q (F0 m pcJ ls (stk a))) : W p l e R s m args below meth c H locs cells slots Q g := k1 k2
theorem w_joinH {α : Type} {A : Nat → Prop} {H0 : Heap} (I : α → Prop) (wsl : α → va_W) (lv : α → List (Nat × Value)) (stk : α → List Value) (pcJ nL : Nat) (k1 : (∀ (a : α) (ls : Array Slot) (H : Heap) (locs : List Loc), I a → lv_has ls nL (lv a) → va_P D vwCl (wsl a) H → va_D A (wsl a) → va_S A H0 H locs → W p l e R s m args below meth c H locs cells slots Q (F0 m pcJ ls (stk a))) → W p l e R s m args below meth c H locs cells slots Q g)
    (k2 : ∀ (a : α) (ls : Array Slot) (H : Heap) (locs : List Loc), I a → lv_has ls nL (lv a) → va_P D vwCl (wsl a) H → va_D A (wsl a) → va_S A H0 H locs → W p l e R s m args below meth c H locs cells slots Q (F0 m pcJ ls (stk a))) : W p l e R s m args below meth c H locs cells slots Q g := k1 k2
theorem w_loop {α : Type} (I : α → Prop) (μ : α → Nat) (lv : α → List (Nat × Value)) (pcH nL : Nat)
    (hs : ∀ (a : α) (ls : Array Slot), I a → lv_has ls nL (lv a) → (∀ (b : α) (ls' : Array Slot), I b → μ b < μ a → lv_has ls' nL (lv b) → W p l e R s m args below meth c H locs cells slots Q (F0 m pcH ls' [])) → W p l e R s m args below meth c H locs cells slots Q (F0 m pcH ls []))
    (a : α) (hI : I a) (hl : lv_has ls nL (lv a)) : W p l e R s m args below meth c H locs cells slots Q (F0 m pcH ls []) := by
  have key : ∀ (n : Nat) (a : α) (ls : Array Slot), μ a < n → I a → lv_has ls nL (lv a) → W p l e R s m args below meth c H locs cells slots Q (F0 m pcH ls []) := by
    intro n
    induction n with
    | zero => intro a ls h; omega
    | succ n ih => intro a ls h hI hl; exact hs a ls hI hl (fun b ls' hb hlt hlb => ih b ls' (by omega) hb hlb)
  exact key (μ a + 1) a ls (by omega) hI hl
theorem w_loopH {α : Type} {A : Nat → Prop} {H0 : Heap} (I : α → Prop) (μ : α → Nat) (wsl : α → va_W) (lv : α → List (Nat × Value)) (pcH nL : Nat)
    (hs : ∀ (a : α) (ls : Array Slot) (H : Heap) (locs : List Loc), I a → lv_has ls nL (lv a) → va_P D vwCl (wsl a) H → va_D A (wsl a) → va_S A H0 H locs → (∀ (b : α) (ls' : Array Slot) (H' : Heap) (locs' : List Loc), I b → μ b < μ a → lv_has ls' nL (lv b) → va_P D vwCl (wsl b) H' → va_D A (wsl b) → va_S A H0 H' locs' → W p l e R s m args below meth c H' locs' cells slots Q (F0 m pcH ls' [])) → W p l e R s m args below meth c H locs cells slots Q (F0 m pcH ls []))
    (a : α) (hI : I a) (hl : lv_has ls nL (lv a)) (hP : va_P D vwCl (wsl a) H) (hD : va_D A (wsl a)) (hS : va_S A H0 H locs) : W p l e R s m args below meth c H locs cells slots Q (F0 m pcH ls []) := by
  have key : ∀ (n : Nat) (a : α) (ls : Array Slot) (H : Heap) (locs : List Loc), μ a < n → I a → lv_has ls nL (lv a) → va_P D vwCl (wsl a) H → va_D A (wsl a) → va_S A H0 H locs → W p l e R s m args below meth c H locs cells slots Q (F0 m pcH ls []) := by
    intro n
    induction n with
    | zero => intro a ls H locs h; omega
    | succ n ih => intro a ls H locs h hI hl hP hD hS; exact hs a ls H locs hI hl hP hD hS (fun b ls' H' locs' hb hlt hlb hP' hD' hS' => ih b ls' H' locs' (by omega) hb hlb hP' hD' hS')
  exact key (μ a + 1) a ls H locs (by omega) hI hl hP hD hS
end Z1
