/-! calls that write: all lists written out, so that no two unlike numbers are ever compared -/
section Z3
variable {p : Program} {l : Launch} {e : Env} {R : Room} {s : State} {m : MethodId} {args : Array Value} {below : List Frame} {meth : Method} {c : Code} {H : Heap} {locs : List Loc} {cells slots : Nat} {Q : State → Prop}
variable {y : MethodName} {bytes cc : ByteArray} {maxL nL n index pc : Nat} {ret : Option FieldType} {cds : List Cond} {rm : Room} {Ts : List Cond} {own C : String} {b : Addr} {As rest st : List Value} {ls : Array Slot} {g : JFrame}
variable {D : va_G} {cI cZ : ClassId} {wc : va_W}

theorem mi_V2 {S1 : Type} {post : Int32 → S1 → Prop} {wf : S1 → va_W} {A0 : Nat → Prop} {H0 : Heap} {ws : va_W} (S : CallFix p m c cc nL s args Ts own) (hM : MI l D cI cZ y cds rm (.ref b :: As) wc post wf) (cw : CallW R s args own C index y bytes maxL ret cds rm 0 0 n) (hK : KX D cI cZ s) (hP : va_P D vwCl ws H) (hD : va_D A0 ws) (hS : va_S A0 H0 H locs)
    (nW : Nat) (hW : ws.length = nW) (is isR : List Nat) (wn : S1 → va_W) (hC : is.map (fun i => ws[i]?) = wc.map some) (hnd : va_nd is = true) (h1 : ∀ u, is.map (fun i => (wn u)[i]?) = (wf u).map some) (adc : List Nat) (hA0 : wc.map (·.1) = adc) (hA1 : ∀ u, (wf u).map (·.1) = adc) (rR : va_W) (hR0 : isR.map (fun i => ws[i]?) = rR.map some) (hR : ∀ u, isR.map (fun i => (wn u)[i]?) = rR.map some) (adw : List Nat) (hB0 : ws.map (·.1) = adw) (hB1 : ∀ u, (wn u).map (·.1) = adw)
    (hall : (List.range nW).all (fun i => decide (i ∈ is) || decide (i ∈ isR)) = true) (hdis : is.all (fun i => !decide (i ∈ isR)) = true) (hlen : isR.all (fun i => decide (i < nW)) = true)
    {ci : Nat} {fs : List Value} {T : u_T} {N : Nat} (he : wc[0]? = some (b, .inr (ci, fs))) (hc : vwCl[ci]? = some (C, T, N))
    (hn : As.length = n) (hsize : ls.size = nL) (hst : st = As.reverse ++ .ref b :: rest) (hroom : (rest.map fun v => v.category).sum ≤ 8) (hdg : decode cc pc = .ok (.invokevirtual index, 3)) (hf : cells ≤ R.cells ∧ slots ≤ R.slots)
    (kk : ∀ (r : Int32) (u : S1) (H1 : Heap) (locs1 : List Loc), post r u → va_P D vwCl (wn u) H1 → va_D A0 (wn u) → va_S A0 H0 H1 locs1 → W p l e R s m args below meth c H1 locs1 cells slots Q (F0 m (pc + 3) ls (.int r :: rest))) : W p l e R s m args below meth c H locs cells slots Q (F0 m pc ls st) := by
  subst hW
  exact mi_V S hM cw hK hP hD hS is isR wn hC hnd h1 (fun u => (hA1 u).trans hA0.symm) (fun u => (hR u).trans hR0.symm) (fun u => (hB1 u).trans hB0.symm) hall hdis hlen he hc hn hsize hst hroom hdg hf kk
theorem mv_V2 {S1 : Type} {post : S1 → Prop} {wf : S1 → va_W} {A0 : Nat → Prop} {H0 : Heap} {ws : va_W} (S : CallFix p m c cc nL s args Ts own) (hM : MV l D cI cZ y cds rm (.ref b :: As) wc post wf) (cw : CallW R s args own C index y bytes maxL ret cds rm 0 0 n) (hK : KX D cI cZ s) (hP : va_P D vwCl ws H) (hD : va_D A0 ws) (hS : va_S A0 H0 H locs)
    (nW : Nat) (hW : ws.length = nW) (is isR : List Nat) (wn : S1 → va_W) (hC : is.map (fun i => ws[i]?) = wc.map some) (hnd : va_nd is = true) (h1 : ∀ u, is.map (fun i => (wn u)[i]?) = (wf u).map some) (adc : List Nat) (hA0 : wc.map (·.1) = adc) (hA1 : ∀ u, (wf u).map (·.1) = adc) (rR : va_W) (hR0 : isR.map (fun i => ws[i]?) = rR.map some) (hR : ∀ u, isR.map (fun i => (wn u)[i]?) = rR.map some) (adw : List Nat) (hB0 : ws.map (·.1) = adw) (hB1 : ∀ u, (wn u).map (·.1) = adw)
    (hall : (List.range nW).all (fun i => decide (i ∈ is) || decide (i ∈ isR)) = true) (hdis : is.all (fun i => !decide (i ∈ isR)) = true) (hlen : isR.all (fun i => decide (i < nW)) = true)
    {ci : Nat} {fs : List Value} {T : u_T} {N : Nat} (he : wc[0]? = some (b, .inr (ci, fs))) (hc : vwCl[ci]? = some (C, T, N))
    (hn : As.length = n) (hsize : ls.size = nL) (hst : st = As.reverse ++ .ref b :: rest) (hroom : (rest.map fun v => v.category).sum ≤ 8) (hdg : decode cc pc = .ok (.invokevirtual index, 3)) (hf : cells ≤ R.cells ∧ slots ≤ R.slots)
    (kk : ∀ (u : S1) (H1 : Heap) (locs1 : List Loc), post u → va_P D vwCl (wn u) H1 → va_D A0 (wn u) → va_S A0 H0 H1 locs1 → W p l e R s m args below meth c H1 locs1 cells slots Q (F0 m (pc + 3) ls rest)) : W p l e R s m args below meth c H locs cells slots Q (F0 m pc ls st) := by
  subst hW
  exact mv_V S hM cw hK hP hD hS is isR wn hC hnd h1 (fun u => (hA1 u).trans hA0.symm) (fun u => (hR u).trans hR0.symm) (fun u => (hB1 u).trans hB0.symm) hall hdis hlen he hc hn hsize hst hroom hdg hf kk
end Z3
