/-- at the head of the loop's end, whatever the state -/
def lw_N (p : Program) (l : Launch) (e : Env) (s : State) (m : MethodId) (below : List Frame) (meth : Method) (c : Code) (b : Nat) (D : va_G) (cI cZ : ClassId) (a am : Nat → Nat) (i pc : Nat) : Prop := ∀ (N : TN) (pb : Nat → Int32) (S : TS) (sb : Nat → Int32) (q : TQ) (w : Nat × (Nat → Int32) × Int32 × Int32) (o : TO) (wy : Nat → Int32) (ro : TR) (t : TT) (zf : Nat → Nat) (fo : TF) (tr be : Nat → Int32) (k : TC) (z : TZ) (H : Heap) (locs : List Loc) (ls : Array Slot), IV N pb S sb q w o ro t zf fo k → va_P D vwCl (wX a cI N pb S sb q w o wy ro t fo tr be k) H → va_P D vwCl (wM am cI cZ N S q o ro t fo k z) H → va_S (fun q : Nat => s.heap.size ≤ q) s.heap H locs → lv_has ls 4 [(0, .ref b), (1, .ref (a 0)), (2, .ref (am 0)), (3, .int (nI i))] → W p l e room_1 s m #[Value.ref b] below meth c H locs 600000 7302249 (lw_Z below #[Value.ref b] s) (F0 m pc ls [])
set_option maxHeartbeats 4000000 in
set_option maxRecDepth 100000 in
theorem lw_c0 {p : Program} {l : Launch} {e : Env} {s : State} {m : MethodId} {below : List Frame} {meth : Method} {c : Code} {b L : Nat} {xs : Nat → Int32} {D : va_G} {cI cZ : ClassId} {a am : Nat → Nat} {i : Nat} (hc : lw_C p s m meth c b L xs D cI cZ) (hd : lw_D (fun q : Nat => s.heap.size ≤ q) a am cI cZ) (hi : i + 7 ≤ L) (nx : lw_N p l e s m below meth c b D cI cZ a am i 1048) : lw_N p l e s m below meth c b D cI cZ a am i 160 := by
  intro N pb S sb q w o wy ro t zf fo tr be k z H locs ls hI hP hPM hS hl
  obtain ⟨hx, hb, hml, hown, hts, hX, hbl, hL, hK⟩ := hc
  obtain ⟨hIN, hIS, hIQ, hw, ho8, hIR, hIT, hIF, hIK⟩ := hI
  have hbA : ¬ (fun q : Nat => s.heap.size ≤ q) b := Nat.not_le.mpr hbl
  refine lv_aload_n hx hb dL_law_160 rfl (lv_at hl 1 rfl) ?_
  refine lw_arg hx hb hX hbl hbA hS hl hL 1 (by omega) (by decide +kernel) dL_law_161 dL_law_162 dL_law_163 dL_law_164 dL_law_165 ?_
  refine lw_arg hx hb hX hbl hbA hS hl hL 2 (by omega) (by decide +kernel) dL_law_166 dL_law_167 dL_law_168 dL_law_169 dL_law_170 ?_
  refine lw_arg hx hb hX hbl hbA hS hl hL 3 (by omega) (by decide +kernel) dL_law_171 dL_law_172 dL_law_173 dL_law_174 dL_law_175 ?_
  refine mi_F (As := [.int (xs (i + 1)), .int (xs (i + 2)), .int (xs (i + 3))]) (rest := []) ⟨hx, hb, hml, hown, hts⟩ (c_X9_path l D cI cZ a N pb hIN.1 S sb q hIS.1 w hw o wy ho8 ro hIR.1 t hIT.1 zf hIT.2.1 fo tr be hIF.1 k hIK.1 (xs (i + 1)) (xs (i + 2)) (xs (i + 3))) (cw_L_13 hts rfl rfl ⟨Nat.le_of_ble_eq_true rfl, Nat.le_of_ble_eq_true rfl⟩) hK hP hd.X hS (ci := 9) rfl rfl rfl hl.1 rfl (Nat.le_of_ble_eq_true rfl) dL_law_176 ⟨Nat.le_of_ble_eq_true rfl, Nat.le_of_ble_eq_true rfl⟩ (fun r u H1 locs hp hP1 hk9 hS => ?_)
  have hPM := P_kept hPM hk9 hd.MX
  have hP : va_P D vwCl (wX a cI u.1 u.2 S sb q w o wy ro t fo tr be k) H1 := hP1
  clear hP1 hk9
  refine lv_aload_n hx hb dL_law_179 rfl (lv_at hl 2 rfl) ?_
  refine lw_arg hx hb hX hbl hbA hS hl hL 1 (by omega) (by decide +kernel) dL_law_180 dL_law_181 dL_law_182 dL_law_183 dL_law_184 ?_
  refine lw_arg hx hb hX hbl hbA hS hl hL 2 (by omega) (by decide +kernel) dL_law_185 dL_law_186 dL_law_187 dL_law_188 dL_law_189 ?_
  refine lw_arg hx hb hX hbl hbA hS hl hL 3 (by omega) (by decide +kernel) dL_law_190 dL_law_191 dL_law_192 dL_law_193 dL_law_194 ?_
  refine mi_F (As := [.int (xs (i + 1)), .int (xs (i + 2)), .int (xs (i + 3))]) (rest := [.int r]) ⟨hx, hb, hml, hown, hts⟩ (c_X10_path l D cI cZ am N hIN.1 S hIS.1 q o ho8 ro hIR.1 t hIT.1 fo hIF.1 k hIK.1 z  (xs (i + 1)) (xs (i + 2)) (xs (i + 3)) ) (cw_L_17 hts rfl rfl ⟨Nat.le_of_ble_eq_true rfl, Nat.le_of_ble_eq_true rfl⟩) hK hPM hd.M hS (ci := 10) rfl rfl rfl hl.1 rfl (Nat.le_of_ble_eq_true rfl) dL_law_195 ⟨Nat.le_of_ble_eq_true rfl, Nat.le_of_ble_eq_true rfl⟩ (fun r2 u2 H2 locs hp2 hP2 hk9 hS => ?_)
  have hP := P_kept hP hk9 hd.XM
  have hPM : va_P D vwCl (wM am cI cZ u2 S q o ro t fo k z) H2 := hP2
  clear hP2 hk9
  have hp : (r, u) = jXpath N pb (xs (i + 1)) (xs (i + 2)) (xs (i + 3)) := hp
  have hp2 : (r2, u2) = mXpath N (xs (i + 1)) (xs (i + 2)) (xs (i + 3)) := hp2
  have he : mXpath N (xs (i + 1)) (xs (i + 2)) (xs (i + 3)) = ((jXpath N pb (xs (i + 1)) (xs (i + 2)) (xs (i + 3))).1, (jXpath N pb (xs (i + 1)) (xs (i + 2)) (xs (i + 3))).2.1) := e_path (v := (xs (i + 3))) hIN.1 hIN.2.2.2.2 hIN.2.2.2.1
  rw [he, ← hp] at hp2
  obtain ⟨e1, e2⟩ : r2 = r ∧ u2 = u.1 := Prod.mk.inj hp2
  have hpp := p_path (x := (xs (i + 1))) (y := (xs (i + 2))) (v := (xs (i + 3))) hIN hIS hIR hIT
  rw [← hp] at hpp
  rw [e2] at hPM
  refine lv_icmp_eq (tgt := 1048) hx hb dL_law_198 (by decide) (fun _ => ?_) (fun z9 => absurd e1.symm z9)
  exact nx (u.1) (u.2) S sb q w o wy ro t zf fo tr be k z H2 locs ls ⟨hpp.1, hpp.2.1, hIQ, hw, ho8, hpp.2.2.1, hpp.2.2.2, hIF, hIK⟩ hP hPM hS hl
set_option maxHeartbeats 4000000 in
set_option maxRecDepth 100000 in
theorem lw_c1 {p : Program} {l : Launch} {e : Env} {s : State} {m : MethodId} {below : List Frame} {meth : Method} {c : Code} {b L : Nat} {xs : Nat → Int32} {D : va_G} {cI cZ : ClassId} {a am : Nat → Nat} {i : Nat} (hc : lw_C p s m meth c b L xs D cI cZ) (hd : lw_D (fun q : Nat => s.heap.size ≤ q) a am cI cZ) (hi : i + 7 ≤ L) (nx : lw_N p l e s m below meth c b D cI cZ a am i 1048) : lw_N p l e s m below meth c b D cI cZ a am i 203 := by
  intro N pb S sb q w o wy ro t zf fo tr be k z H locs ls hI hP hPM hS hl
  obtain ⟨hx, hb, hml, hown, hts, hX, hbl, hL, hK⟩ := hc
  obtain ⟨hIN, hIS, hIQ, hw, ho8, hIR, hIT, hIF, hIK⟩ := hI
  have hbA : ¬ (fun q : Nat => s.heap.size ≤ q) b := Nat.not_le.mpr hbl
  refine lv_aload_n hx hb dL_law_203 rfl (lv_at hl 1 rfl) ?_
  refine lw_arg hx hb hX hbl hbA hS hl hL 1 (by omega) (by decide +kernel) dL_law_204 dL_law_205 dL_law_206 dL_law_207 dL_law_208 ?_
  refine mi_F (As := [.int (xs (i + 1))]) (rest := []) ⟨hx, hb, hml, hown, hts⟩ (c_X9_weather l D cI cZ a N pb hIN.1 S sb q hIS.1 w hw o wy ho8 ro hIR.1 t hIT.1 zf hIT.2.1 fo tr be hIF.1 k hIK.1 (xs (i + 1))) (cw_L_18 hts rfl rfl ⟨Nat.le_of_ble_eq_true rfl, Nat.le_of_ble_eq_true rfl⟩) hK hP hd.X hS (ci := 9) rfl rfl rfl hl.1 rfl (Nat.le_of_ble_eq_true rfl) dL_law_209 ⟨Nat.le_of_ble_eq_true rfl, Nat.le_of_ble_eq_true rfl⟩ (fun r u H1 locs hp hP1 hk9 hS => ?_)
  have hPM := P_kept hPM hk9 hd.MX
  have hP : va_P D vwCl (wX a cI N pb S sb u w o wy ro t fo tr be k) H1 := hP1
  clear hP1 hk9
  refine lv_aload_n hx hb dL_law_212 rfl (lv_at hl 2 rfl) ?_
  refine lw_arg hx hb hX hbl hbA hS hl hL 1 (by omega) (by decide +kernel) dL_law_213 dL_law_214 dL_law_215 dL_law_216 dL_law_217 ?_
  refine mi_F (As := [.int (xs (i + 1))]) (rest := [.int r]) ⟨hx, hb, hml, hown, hts⟩ (c_X10_weather l D cI cZ am N hIN.1 S hIS.1 q o ho8 ro hIR.1 t hIT.1 fo hIF.1 k hIK.1 z  (xs (i + 1)) ) (cw_L_22 hts rfl rfl ⟨Nat.le_of_ble_eq_true rfl, Nat.le_of_ble_eq_true rfl⟩) hK hPM hd.M hS (ci := 10) rfl rfl rfl hl.1 rfl (Nat.le_of_ble_eq_true rfl) dL_law_218 ⟨Nat.le_of_ble_eq_true rfl, Nat.le_of_ble_eq_true rfl⟩ (fun r2 u2 H2 locs hp2 hP2 hk9 hS => ?_)
  have hP := P_kept hP hk9 hd.XM
  have hPM : va_P D vwCl (wM am cI cZ N S u2 o ro t fo k z) H2 := hP2
  clear hP2 hk9
  have hp : (r, u) = jXweather q (xs (i + 1)) := hp
  have hp2 : (r2, u2) = mXweather q (xs (i + 1)) := hp2
  have he : mXweather q (xs (i + 1)) = jXweather q (xs (i + 1)) := e_weather
  rw [he, ← hp] at hp2
  obtain ⟨e1, e2⟩ : r2 = r ∧ u2 = u := Prod.mk.inj hp2
  have hpp := p_weather (x := (xs (i + 1))) hIS hIQ
  rw [← hp] at hpp
  rw [e2] at hPM
  refine lv_icmp_eq (tgt := 1048) hx hb dL_law_221 (by decide) (fun _ => ?_) (fun z9 => absurd e1.symm z9)
  exact nx N pb S sb u w o wy ro t zf fo tr be k z H2 locs ls ⟨hIN, hpp.1, hpp.2, hw, ho8, hIR, hIT, hIF, hIK⟩ hP hPM hS hl
set_option maxHeartbeats 4000000 in
set_option maxRecDepth 100000 in
theorem lw_c2 {p : Program} {l : Launch} {e : Env} {s : State} {m : MethodId} {below : List Frame} {meth : Method} {c : Code} {b L : Nat} {xs : Nat → Int32} {D : va_G} {cI cZ : ClassId} {a am : Nat → Nat} {i : Nat} (hc : lw_C p s m meth c b L xs D cI cZ) (hd : lw_D (fun q : Nat => s.heap.size ≤ q) a am cI cZ) (hi : i + 7 ≤ L) (nx : lw_N p l e s m below meth c b D cI cZ a am i 1048) : lw_N p l e s m below meth c b D cI cZ a am i 226 := by
  intro N pb S sb q w o wy ro t zf fo tr be k z H locs ls hI hP hPM hS hl
  obtain ⟨hx, hb, hml, hown, hts, hX, hbl, hL, hK⟩ := hc
  obtain ⟨hIN, hIS, hIQ, hw, ho8, hIR, hIT, hIF, hIK⟩ := hI
  have hbA : ¬ (fun q : Nat => s.heap.size ≤ q) b := Nat.not_le.mpr hbl
  refine lv_aload_n hx hb dL_law_226 rfl (lv_at hl 1 rfl) ?_
  refine lw_arg hx hb hX hbl hbA hS hl hL 1 (by omega) (by decide +kernel) dL_law_227 dL_law_228 dL_law_229 dL_law_230 dL_law_231 ?_
  refine mi_F (As := [.int (xs (i + 1))]) (rest := []) ⟨hx, hb, hml, hown, hts⟩ (c_X9_days l D cI cZ a N pb hIN.1 S sb q hIS.1 w hw o wy ho8 ro hIR.1 t hIT.1 zf hIT.2.1 fo tr be hIF.1 k hIK.1 (xs (i + 1))) (cw_L_23 hts rfl rfl ⟨Nat.le_of_ble_eq_true rfl, Nat.le_of_ble_eq_true rfl⟩) hK hP hd.X hS (ci := 9) rfl rfl rfl hl.1 rfl (Nat.le_of_ble_eq_true rfl) dL_law_232 ⟨Nat.le_of_ble_eq_true rfl, Nat.le_of_ble_eq_true rfl⟩ (fun r u H1 locs hp hP1 hk9 hS => ?_)
  have hPM := P_kept hPM hk9 hd.MX
  have hP : va_P D vwCl (wX a cI N pb u.1 sb u.2 w o wy ro t fo tr be k) H1 := hP1
  clear hP1 hk9
  refine lv_aload_n hx hb dL_law_235 rfl (lv_at hl 2 rfl) ?_
  refine lw_arg hx hb hX hbl hbA hS hl hL 1 (by omega) (by decide +kernel) dL_law_236 dL_law_237 dL_law_238 dL_law_239 dL_law_240 ?_
  refine mi_F (As := [.int (xs (i + 1))]) (rest := [.int r]) ⟨hx, hb, hml, hown, hts⟩ (c_X10_days l D cI cZ am N hIN.1 S hIS.1 q o ho8 ro hIR.1 t hIT.1 fo hIF.1 k hIK.1 z  (xs (i + 1)) ) (cw_L_26 hts rfl rfl ⟨Nat.le_of_ble_eq_true rfl, Nat.le_of_ble_eq_true rfl⟩) hK hPM hd.M hS (ci := 10) rfl rfl rfl hl.1 rfl (Nat.le_of_ble_eq_true rfl) dL_law_241 ⟨Nat.le_of_ble_eq_true rfl, Nat.le_of_ble_eq_true rfl⟩ (fun r2 u2 H2 locs hp2 hP2 hk9 hS => ?_)
  have hP := P_kept hP hk9 hd.XM
  have hPM : va_P D vwCl (wM am cI cZ N u2.1 u2.2 o ro t fo k z) H2 := hP2
  clear hP2 hk9
  have hp : (r, u) = jXdays S q (xs (i + 1)) := hp
  have hp2 : (r2, u2) = mXdays S q (xs (i + 1)) := hp2
  have he : mXdays S q (xs (i + 1)) = jXdays S q (xs (i + 1)) := e_days hIQ.1 hIS.2.2.1
  rw [he, ← hp] at hp2
  obtain ⟨e1, e2⟩ : r2 = r ∧ u2 = u := Prod.mk.inj hp2
  have hpp := p_days (x := (xs (i + 1))) hIS hIQ
  rw [← hp] at hpp
  rw [e2] at hPM
  refine lv_icmp_eq (tgt := 1048) hx hb dL_law_244 (by decide) (fun _ => ?_) (fun z9 => absurd e1.symm z9)
  exact nx N pb (u.1) sb (u.2) w o wy ro t zf fo tr be k z H2 locs ls ⟨hIN, hpp.1, hpp.2, hw, ho8, hIR, hIT, hIF, hIK⟩ hP hPM hS hl
set_option maxHeartbeats 4000000 in
set_option maxRecDepth 100000 in
theorem lw_c3 {p : Program} {l : Launch} {e : Env} {s : State} {m : MethodId} {below : List Frame} {meth : Method} {c : Code} {b L : Nat} {xs : Nat → Int32} {D : va_G} {cI cZ : ClassId} {a am : Nat → Nat} {i : Nat} (hc : lw_C p s m meth c b L xs D cI cZ) (hd : lw_D (fun q : Nat => s.heap.size ≤ q) a am cI cZ) (hi : i + 7 ≤ L) (nx : lw_N p l e s m below meth c b D cI cZ a am i 1048) : lw_N p l e s m below meth c b D cI cZ a am i 249 := by
  intro N pb S sb q w o wy ro t zf fo tr be k z H locs ls hI hP hPM hS hl
  obtain ⟨hx, hb, hml, hown, hts, hX, hbl, hL, hK⟩ := hc
  obtain ⟨hIN, hIS, hIQ, hw, ho8, hIR, hIT, hIF, hIK⟩ := hI
  have hbA : ¬ (fun q : Nat => s.heap.size ≤ q) b := Nat.not_le.mpr hbl
  refine lv_aload_n hx hb dL_law_249 rfl (lv_at hl 1 rfl) ?_
  refine lw_arg hx hb hX hbl hbA hS hl hL 1 (by omega) (by decide +kernel) dL_law_250 dL_law_251 dL_law_252 dL_law_253 dL_law_254 ?_
  refine lw_arg hx hb hX hbl hbA hS hl hL 2 (by omega) (by decide +kernel) dL_law_255 dL_law_256 dL_law_257 dL_law_258 dL_law_259 ?_
  refine lw_arg hx hb hX hbl hbA hS hl hL 3 (by omega) (by decide +kernel) dL_law_260 dL_law_261 dL_law_262 dL_law_263 dL_law_264 ?_
  refine lw_arg hx hb hX hbl hbA hS hl hL 4 (by omega) (by decide +kernel) dL_law_265 dL_law_266 dL_law_267 dL_law_268 dL_law_269 ?_
  refine lw_arg hx hb hX hbl hbA hS hl hL 5 (by omega) (by decide +kernel) dL_law_270 dL_law_271 dL_law_272 dL_law_273 dL_law_274 ?_
  refine lw_arg6 hx hb hX hbl hbA hS hl hL 6 (by omega) (by decide +kernel) dL_law_275 dL_law_276 dL_law_277 dL_law_279 dL_law_280 ?_
  refine lw_bool hx hb dL_law_281 dL_law_284 dL_law_285 dL_law_288 ?_
  refine mi_F (As := [.int (xs (i + 1)), .int (xs (i + 2)), .int (xs (i + 3)), .int (xs (i + 4)), .int (xs (i + 5)), .int (lw_z (xs (i + 6)))]) (rest := []) ⟨hx, hb, hml, hown, hts⟩ (c_X9_sign l D cI cZ a N pb hIN.1 S sb q hIS.1 w hw o wy ho8 ro hIR.1 t hIT.1 zf hIT.2.1 fo tr be hIF.1 k hIK.1 (xs (i + 1)) (xs (i + 2)) (xs (i + 3)) (xs (i + 4)) (xs (i + 5)) (lw_z (xs (i + 6)))) (cw_L_27 hts rfl rfl ⟨Nat.le_of_ble_eq_true rfl, Nat.le_of_ble_eq_true rfl⟩) hK hP hd.X hS (ci := 9) rfl rfl rfl hl.1 rfl (Nat.le_of_ble_eq_true rfl) dL_law_289 ⟨Nat.le_of_ble_eq_true rfl, Nat.le_of_ble_eq_true rfl⟩ (fun r u H1 locs hp hP1 hk9 hS => ?_)
  have hPM := P_kept hPM hk9 hd.MX
  have hP : va_P D vwCl (wX a cI N pb u.1 u.2 q w o wy ro t fo tr be k) H1 := hP1
  clear hP1 hk9
  refine lv_aload_n hx hb dL_law_292 rfl (lv_at hl 2 rfl) ?_
  refine lw_arg hx hb hX hbl hbA hS hl hL 1 (by omega) (by decide +kernel) dL_law_293 dL_law_294 dL_law_295 dL_law_296 dL_law_297 ?_
  refine lw_arg hx hb hX hbl hbA hS hl hL 2 (by omega) (by decide +kernel) dL_law_298 dL_law_299 dL_law_300 dL_law_301 dL_law_302 ?_
  refine lw_arg hx hb hX hbl hbA hS hl hL 3 (by omega) (by decide +kernel) dL_law_303 dL_law_304 dL_law_305 dL_law_306 dL_law_307 ?_
  refine lw_arg hx hb hX hbl hbA hS hl hL 4 (by omega) (by decide +kernel) dL_law_308 dL_law_309 dL_law_310 dL_law_311 dL_law_312 ?_
  refine lw_arg hx hb hX hbl hbA hS hl hL 5 (by omega) (by decide +kernel) dL_law_313 dL_law_314 dL_law_315 dL_law_316 dL_law_317 ?_
  refine lw_arg6 hx hb hX hbl hbA hS hl hL 6 (by omega) (by decide +kernel) dL_law_318 dL_law_319 dL_law_320 dL_law_322 dL_law_323 ?_
  refine lw_bool hx hb dL_law_324 dL_law_327 dL_law_328 dL_law_331 ?_
  refine mi_F (As := [.int (xs (i + 1)), .int (xs (i + 2)), .int (xs (i + 3)), .int (xs (i + 4)), .int (xs (i + 5)), .int (lw_z (xs (i + 6)))]) (rest := [.int r]) ⟨hx, hb, hml, hown, hts⟩ (c_X10_sign l D cI cZ am N hIN.1 S hIS.1 q o ho8 ro hIR.1 t hIT.1 fo hIF.1 k hIK.1 z  (xs (i + 1)) (xs (i + 2)) (xs (i + 3)) (xs (i + 4)) (xs (i + 5)) (lw_z (xs (i + 6))) (lw_z01 _)) (cw_L_31 hts rfl rfl ⟨Nat.le_of_ble_eq_true rfl, Nat.le_of_ble_eq_true rfl⟩) hK hPM hd.M hS (ci := 10) rfl rfl rfl hl.1 rfl (Nat.le_of_ble_eq_true rfl) dL_law_332 ⟨Nat.le_of_ble_eq_true rfl, Nat.le_of_ble_eq_true rfl⟩ (fun r2 u2 H2 locs hp2 hP2 hk9 hS => ?_)
  have hP := P_kept hP hk9 hd.XM
  have hPM : va_P D vwCl (wM am cI cZ N u2 q o ro t fo k z) H2 := hP2
  clear hP2 hk9
  have hp : (r, u) = jXsign S sb q pb (xs (i + 1)) (xs (i + 2)) (xs (i + 3)) (xs (i + 4)) (xs (i + 5)) (lw_z (xs (i + 6))) := hp
  have hp2 : (r2, u2) = mXsign N S q (xs (i + 1)) (xs (i + 2)) (xs (i + 3)) (xs (i + 4)) (xs (i + 5)) (lw_z (xs (i + 6))) := hp2
  have he : mXsign N S q (xs (i + 1)) (xs (i + 2)) (xs (i + 3)) (xs (i + 4)) (xs (i + 5)) (lw_z (xs (i + 6))) = ((jXsign S sb q pb (xs (i + 1)) (xs (i + 2)) (xs (i + 3)) (xs (i + 4)) (xs (i + 5)) (lw_z (xs (i + 6)))).1, (jXsign S sb q pb (xs (i + 1)) (xs (i + 2)) (xs (i + 3)) (xs (i + 4)) (xs (i + 5)) (lw_z (xs (i + 6)))).2.1) := e_sign (sb := sb) hIN.1 hIS.1 hIN.2.2.2.2
  rw [he, ← hp] at hp2
  obtain ⟨e1, e2⟩ : r2 = r ∧ u2 = u.1 := Prod.mk.inj hp2
  have hpp := p_sign (y1 := (xs (i + 1))) (y2 := (xs (i + 2))) (y3 := (xs (i + 3))) (y4 := (xs (i + 4))) (y5 := (xs (i + 5))) (y6 := (lw_z (xs (i + 6)))) hIN hIS
  rw [← hp] at hpp
  rw [e2] at hPM
  refine lv_icmp_eq (tgt := 1048) hx hb dL_law_335 (by decide) (fun _ => ?_) (fun z9 => absurd e1.symm z9)
  exact nx N pb (u.1) (u.2) q w o wy ro t zf fo tr be k z H2 locs ls ⟨hIN, hpp, hIQ, hw, ho8, hIR, hIT, hIF, hIK⟩ hP hPM hS hl
set_option maxHeartbeats 4000000 in
set_option maxRecDepth 100000 in
theorem lw_c4 {p : Program} {l : Launch} {e : Env} {s : State} {m : MethodId} {below : List Frame} {meth : Method} {c : Code} {b L : Nat} {xs : Nat → Int32} {D : va_G} {cI cZ : ClassId} {a am : Nat → Nat} {i : Nat} (hc : lw_C p s m meth c b L xs D cI cZ) (hd : lw_D (fun q : Nat => s.heap.size ≤ q) a am cI cZ) (hi : i + 7 ≤ L) (nx : lw_N p l e s m below meth c b D cI cZ a am i 1048) : lw_N p l e s m below meth c b D cI cZ a am i 340 := by
  intro N pb S sb q w o wy ro t zf fo tr be k z H locs ls hI hP hPM hS hl
  obtain ⟨hx, hb, hml, hown, hts, hX, hbl, hL, hK⟩ := hc
  obtain ⟨hIN, hIS, hIQ, hw, ho8, hIR, hIT, hIF, hIK⟩ := hI
  have hbA : ¬ (fun q : Nat => s.heap.size ≤ q) b := Nat.not_le.mpr hbl
  refine lv_aload_n hx hb dL_law_340 rfl (lv_at hl 1 rfl) ?_
  refine lw_arg hx hb hX hbl hbA hS hl hL 1 (by omega) (by decide +kernel) dL_law_341 dL_law_342 dL_law_343 dL_law_344 dL_law_345 ?_
  refine lw_arg hx hb hX hbl hbA hS hl hL 2 (by omega) (by decide +kernel) dL_law_346 dL_law_347 dL_law_348 dL_law_349 dL_law_350 ?_
  refine mi_F (As := [.int (xs (i + 1)), .int (xs (i + 2))]) (rest := []) ⟨hx, hb, hml, hown, hts⟩ (c_X9_turn l D cI cZ a N pb hIN.1 S sb q hIS.1 w hw o wy ho8 ro hIR.1 t hIT.1 zf hIT.2.1 fo tr be hIF.1 k hIK.1 (xs (i + 1)) (xs (i + 2))) (cw_L_32 hts rfl rfl ⟨Nat.le_of_ble_eq_true rfl, Nat.le_of_ble_eq_true rfl⟩) hK hP hd.X hS (ci := 9) rfl rfl rfl hl.1 rfl (Nat.le_of_ble_eq_true rfl) dL_law_351 ⟨Nat.le_of_ble_eq_true rfl, Nat.le_of_ble_eq_true rfl⟩ (fun r u H1 locs hp hP1 hk9 hS => ?_)
  have hPM := P_kept hPM hk9 hd.MX
  have hP : va_P D vwCl (wX a cI N pb u sb q w o wy ro t fo tr be k) H1 := hP1
  clear hP1 hk9
  refine lv_aload_n hx hb dL_law_354 rfl (lv_at hl 2 rfl) ?_
  refine lw_arg hx hb hX hbl hbA hS hl hL 1 (by omega) (by decide +kernel) dL_law_355 dL_law_356 dL_law_357 dL_law_358 dL_law_359 ?_
  refine lw_arg hx hb hX hbl hbA hS hl hL 2 (by omega) (by decide +kernel) dL_law_360 dL_law_361 dL_law_362 dL_law_363 dL_law_364 ?_
  refine mi_F (As := [.int (xs (i + 1)), .int (xs (i + 2))]) (rest := [.int r]) ⟨hx, hb, hml, hown, hts⟩ (c_X10_turn l D cI cZ am N hIN.1 S hIS.1 q o ho8 ro hIR.1 t hIT.1 fo hIF.1 k hIK.1 z  (xs (i + 1)) (xs (i + 2)) ) (cw_L_36 hts rfl rfl ⟨Nat.le_of_ble_eq_true rfl, Nat.le_of_ble_eq_true rfl⟩) hK hPM hd.M hS (ci := 10) rfl rfl rfl hl.1 rfl (Nat.le_of_ble_eq_true rfl) dL_law_365 ⟨Nat.le_of_ble_eq_true rfl, Nat.le_of_ble_eq_true rfl⟩ (fun r2 u2 H2 locs hp2 hP2 hk9 hS => ?_)
  have hP := P_kept hP hk9 hd.XM
  have hPM : va_P D vwCl (wM am cI cZ N u2 q o ro t fo k z) H2 := hP2
  clear hP2 hk9
  have hp : (r, u) = jXturn S pb (xs (i + 1)) (xs (i + 2)) := hp
  have hp2 : (r2, u2) = mXturn N S (xs (i + 1)) (xs (i + 2)) := hp2
  have he : mXturn N S (xs (i + 1)) (xs (i + 2)) = jXturn S pb (xs (i + 1)) (xs (i + 2)) := e_turn hIN.1 hIS.1 hIN.2.2.2.2 hIS.2.1 hIS.2.2.1
  rw [he, ← hp] at hp2
  obtain ⟨e1, e2⟩ : r2 = r ∧ u2 = u := Prod.mk.inj hp2
  have hpp := p_turn (x := (xs (i + 1))) (y := (xs (i + 2))) hIN hIS
  rw [← hp] at hpp
  rw [e2] at hPM
  refine lv_icmp_eq (tgt := 1048) hx hb dL_law_368 (by decide) (fun _ => ?_) (fun z9 => absurd e1.symm z9)
  exact nx N pb u sb q w o wy ro t zf fo tr be k z H2 locs ls ⟨hIN, hpp, hIQ, hw, ho8, hIR, hIT, hIF, hIK⟩ hP hPM hS hl
set_option maxHeartbeats 4000000 in
set_option maxRecDepth 100000 in
theorem lw_c5 {p : Program} {l : Launch} {e : Env} {s : State} {m : MethodId} {below : List Frame} {meth : Method} {c : Code} {b L : Nat} {xs : Nat → Int32} {D : va_G} {cI cZ : ClassId} {a am : Nat → Nat} {i : Nat} (hc : lw_C p s m meth c b L xs D cI cZ) (hd : lw_D (fun q : Nat => s.heap.size ≤ q) a am cI cZ) (hi : i + 7 ≤ L) (nx : lw_N p l e s m below meth c b D cI cZ a am i 1048) : lw_N p l e s m below meth c b D cI cZ a am i 373 := by
  intro N pb S sb q w o wy ro t zf fo tr be k z H locs ls hI hP hPM hS hl
  obtain ⟨hx, hb, hml, hown, hts, hX, hbl, hL, hK⟩ := hc
  obtain ⟨hIN, hIS, hIQ, hw, ho8, hIR, hIT, hIF, hIK⟩ := hI
  have hbA : ¬ (fun q : Nat => s.heap.size ≤ q) b := Nat.not_le.mpr hbl
  refine lv_aload_n hx hb dL_law_373 rfl (lv_at hl 1 rfl) ?_
  refine lw_arg hx hb hX hbl hbA hS hl hL 1 (by omega) (by decide +kernel) dL_law_374 dL_law_375 dL_law_376 dL_law_377 dL_law_378 ?_
  refine lw_arg hx hb hX hbl hbA hS hl hL 2 (by omega) (by decide +kernel) dL_law_379 dL_law_380 dL_law_381 dL_law_382 dL_law_383 ?_
  refine ro_V (As := [.int (xs (i + 1)), .int (xs (i + 2))]) (rest := []) ⟨hx, hb, hml, hown, hts⟩ (c_X9_at l D cI cZ a N pb hIN.1 S sb q hIS.1 w hw o wy ho8 ro hIR.1 t hIT.1 zf hIT.2.1 fo tr be hIF.1 k hIK.1 (xs (i + 1)) (xs (i + 2))) (cw_L_37 hts rfl rfl ⟨Nat.le_of_ble_eq_true rfl, Nat.le_of_ble_eq_true rfl⟩) hK hP (ci := 9) rfl rfl rfl hl.1 rfl (Nat.le_of_ble_eq_true rfl) dL_law_384 ⟨Nat.le_of_ble_eq_true rfl, Nat.le_of_ble_eq_true rfl⟩ ?_
  refine lv_aload_n hx hb dL_law_387 rfl (lv_at hl 2 rfl) ?_
  refine lw_arg hx hb hX hbl hbA hS hl hL 1 (by omega) (by decide +kernel) dL_law_388 dL_law_389 dL_law_390 dL_law_391 dL_law_392 ?_
  refine lw_arg hx hb hX hbl hbA hS hl hL 2 (by omega) (by decide +kernel) dL_law_393 dL_law_394 dL_law_395 dL_law_396 dL_law_397 ?_
  refine ro_V (As := [.int (xs (i + 1)), .int (xs (i + 2))]) (rest := [.int _]) ⟨hx, hb, hml, hown, hts⟩ (c_X10_at l D cI cZ am N hIN.1 S hIS.1 q o ho8 ro hIR.1 t hIT.1 fo hIF.1 k hIK.1 z  (xs (i + 1)) (xs (i + 2)) ) (cw_L_40 hts rfl rfl ⟨Nat.le_of_ble_eq_true rfl, Nat.le_of_ble_eq_true rfl⟩) hK hPM (ci := 10) rfl rfl rfl hl.1 rfl (Nat.le_of_ble_eq_true rfl) dL_law_398 ⟨Nat.le_of_ble_eq_true rfl, Nat.le_of_ble_eq_true rfl⟩ ?_
  refine lv_icmp_eq (tgt := 1048) hx hb dL_law_401 (by decide) (fun _ => ?_) (fun z9 => absurd (e_at hIS.1 hIS.2.2.2.2.2.1).symm z9)
  exact nx N pb S sb q w o wy ro t zf fo tr be k z H locs ls ⟨hIN, hIS, hIQ, hw, ho8, hIR, hIT, hIF, hIK⟩ hP hPM hS hl
set_option maxHeartbeats 4000000 in
set_option maxRecDepth 100000 in
theorem lw_c6 {p : Program} {l : Launch} {e : Env} {s : State} {m : MethodId} {below : List Frame} {meth : Method} {c : Code} {b L : Nat} {xs : Nat → Int32} {D : va_G} {cI cZ : ClassId} {a am : Nat → Nat} {i : Nat} (hc : lw_C p s m meth c b L xs D cI cZ) (hd : lw_D (fun q : Nat => s.heap.size ≤ q) a am cI cZ) (hi : i + 7 ≤ L) (nx : lw_N p l e s m below meth c b D cI cZ a am i 1048) : lw_N p l e s m below meth c b D cI cZ a am i 406 := by
  intro N pb S sb q w o wy ro t zf fo tr be k z H locs ls hI hP hPM hS hl
  obtain ⟨hx, hb, hml, hown, hts, hX, hbl, hL, hK⟩ := hc
  obtain ⟨hIN, hIS, hIQ, hw, ho8, hIR, hIT, hIF, hIK⟩ := hI
  have hbA : ¬ (fun q : Nat => s.heap.size ≤ q) b := Nat.not_le.mpr hbl
  refine lv_aload_n hx hb dL_law_406 rfl (lv_at hl 1 rfl) ?_
  refine lw_arg hx hb hX hbl hbA hS hl hL 1 (by omega) (by decide +kernel) dL_law_407 dL_law_408 dL_law_409 dL_law_410 dL_law_411 ?_
  refine lw_arg hx hb hX hbl hbA hS hl hL 2 (by omega) (by decide +kernel) dL_law_412 dL_law_413 dL_law_414 dL_law_415 dL_law_416 ?_
  refine mi_F (As := [.int (xs (i + 1)), .int (xs (i + 2))]) (rest := []) ⟨hx, hb, hml, hown, hts⟩ (c_X9_set l D cI cZ a N pb hIN.1 S sb q hIS.1 w hw o wy ho8 ro hIR.1 t hIT.1 zf hIT.2.1 fo tr be hIF.1 k hIK.1 (xs (i + 1)) (xs (i + 2))) (cw_L_41 hts rfl rfl ⟨Nat.le_of_ble_eq_true rfl, Nat.le_of_ble_eq_true rfl⟩) hK hP hd.X hS (ci := 9) rfl rfl rfl hl.1 rfl (Nat.le_of_ble_eq_true rfl) dL_law_417 ⟨Nat.le_of_ble_eq_true rfl, Nat.le_of_ble_eq_true rfl⟩ (fun r u H1 locs hp hP1 hk9 hS => ?_)
  have hPM := P_kept hPM hk9 hd.MX
  have hP : va_P D vwCl (wX a cI N pb S sb u.1 w o wy u.2.1 u.2.2 fo tr be k) H1 := hP1
  clear hP1 hk9
  refine lv_aload_n hx hb dL_law_420 rfl (lv_at hl 2 rfl) ?_
  refine lw_arg hx hb hX hbl hbA hS hl hL 1 (by omega) (by decide +kernel) dL_law_421 dL_law_422 dL_law_423 dL_law_424 dL_law_425 ?_
  refine lw_arg hx hb hX hbl hbA hS hl hL 2 (by omega) (by decide +kernel) dL_law_426 dL_law_427 dL_law_428 dL_law_429 dL_law_430 ?_
  refine mi_F (As := [.int (xs (i + 1)), .int (xs (i + 2))]) (rest := [.int r]) ⟨hx, hb, hml, hown, hts⟩ (c_X10_set l D cI cZ am N hIN.1 S hIS.1 q o ho8 ro hIR.1 t hIT.1 fo hIF.1 k hIK.1 z  (xs (i + 1)) (xs (i + 2)) ) (cw_L_44 hts rfl rfl ⟨Nat.le_of_ble_eq_true rfl, Nat.le_of_ble_eq_true rfl⟩) hK hPM hd.M hS (ci := 10) rfl rfl rfl hl.1 rfl (Nat.le_of_ble_eq_true rfl) dL_law_431 ⟨Nat.le_of_ble_eq_true rfl, Nat.le_of_ble_eq_true rfl⟩ (fun r2 u2 H2 locs hp2 hP2 hk9 hS => ?_)
  have hP := P_kept hP hk9 hd.XM
  have hPM : va_P D vwCl (wM am cI cZ N S u2.1 o u2.2.1 u2.2.2 fo k z) H2 := hP2
  clear hP2 hk9
  have hp : (r, u) = jXset q ro t (xs (i + 1)) (xs (i + 2)) := hp
  have hp2 : (r2, u2) = mXset q ro t (xs (i + 1)) (xs (i + 2)) := hp2
  have he : mXset q ro t (xs (i + 1)) (xs (i + 2)) = jXset q ro t (xs (i + 1)) (xs (i + 2)) := e_set
  rw [he, ← hp] at hp2
  obtain ⟨e1, e2⟩ : r2 = r ∧ u2 = u := Prod.mk.inj hp2
  have hpp := p_set (x := (xs (i + 1))) (y := (xs (i + 2))) hIS hIQ hIR hIT
  rw [← hp] at hpp
  rw [e2] at hPM
  refine lv_icmp_eq (tgt := 1048) hx hb dL_law_434 (by decide) (fun _ => ?_) (fun z9 => absurd e1.symm z9)
  exact nx N pb S sb (u.1) w o wy (u.2.1) (u.2.2) zf fo tr be k z H2 locs ls ⟨hIN, hpp.1, hpp.2.1, hw, ho8, hpp.2.2.1, hpp.2.2.2, hIF, hIK⟩ hP hPM hS hl
