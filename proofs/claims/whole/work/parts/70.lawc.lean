/-! the law: its calls, one by one -/
theorem room_cj {j k : Nat} (hj : j < 512) (hk : k ≤ 1000) : 30 + 1000 * j + k ≤ room_1.cells := room_c (by omega)
theorem room_sj {j k : Nat} (hj : j < 512) (hk : k ≤ 14100) : 400 + 14100 * j + k ≤ room_1.slots := room_s (by omega)
theorem FB_ao {s0 om ao d9 : Nat} {ad : Nat → Nat} (hc : LCn s0 om ao d9 ad) : ¬ FBk s0 om ad d9 ao := by
  obtain ⟨h1, h2, h3, h4, h5, h6, h7⟩ := hc
  rintro (h | (h | ⟨k, hk, h⟩) | h)
  · omega
  · exact h5 h
  · exact (h2 k hk).2.1 h
  · exact h7 h
theorem FB_d9 {s0 om ao d9 : Nat} {ad : Nat → Nat} (hc : LCn s0 om ao d9 ad) : ¬ FBk s0 om ad ao d9 := by
  obtain ⟨h1, h2, h3, h4, h5, h6, h7⟩ := hc
  rintro (h | (h | ⟨k, hk, h⟩) | h)
  · omega
  · exact h6 h
  · exact (h2 k hk).2.2 h
  · exact h7 h.symm
section LC9
variable {p : Program} {l : Launch} {e : Env} {s : State} {m : MethodId} {args : Array Value} {below : List Frame} {meth : Method} {c : Code} {Q : State → Prop}
variable {g : cG} {bs L x om ao d9 j : Nat} {xs : Nat → Int32} {ad : Nat → Nat}
set_option maxHeartbeats 4000000 in
set_option maxRecDepth 100000 in
theorem law_0 (E : EN p s m c cL_law 9 args RL g (F0k s.heap.size)) (hl9 : l.stackTraces = false) (hc : LCn s.heap.size om ao d9 ad) (hX : va_X bs L xs s s.heap) (hbl : bs < s.heap.size) (hjL : 4 * j + 4 ≤ L) (hL : L ≤ 2048) (hn : LAt p l e s m args below meth c Q g bs x om ao d9 ad 28 (j + 1)) : LAt p l e s m args below meth c Q g bs x om ao d9 ad 176 j := by
  intro A nb nl nr ne pr t M f f2 H locs ls hA hPD hPM hao hd9 hRR hS hl
  have hx := E.1
  have hb := E.2.1
  have hj : j < 512 := by omega
  have hN := hRR.2.1
  have h8 := hRR.b8
  have hl : lv_has ls 9 (LBs j bs x om ao d9) := hl

  subst hA
  refine lv_aload_n hx hb dL_law_176 rfl (lv_at hl 2 rfl) ?_
  refine l_arg hx hb hX hbl hS hl 1 0 rfl rfl (i := 1) rfl (by omega) hL dL_law_177 dL_law_178 dL_law_180 dL_law_181 dL_law_182 ?_
  refine lv_aload_n hx hb dL_law_183 rfl (lv_at hl 4 rfl) ?_
  refine l_wrap E hS (w_addLift l g (FBk s.heap.size om ad d9) A nb nl nr ne pr t hl9 ao (by exact FB_ao hc) (xs (4 * j + 1))) okw_addLift lk_L_107 hPD hao hd9 hPM rfl hl ⟨rfl, rfl⟩ rfl ⟨room_cj (k := 3) hj (by omega), room_sj (k := 174) hj (by omega)⟩ dL_law_184 rfl (fun v H locs hv hS hPM hd9 => ?_)
  obtain ⟨rfl, hok, hbad⟩ := hv
  obtain ⟨o1, o2, o3⟩ := op_addLift hRR (xs (4 * j + 1))
  have hmid : ∃ (A2 : Nat → Nat → Nat) (nb2 nl2 nr2 ne2 : Nat) (pr2 : List Nat) (t2 : TT) (f9 : Nat → Int64), A2 0 0 = A 0 0 ∧ PD g (fW (FBk s.heap.size om ad d9) ao) A2 nb2 nl2 nr2 ne2 pr2 t2 H ∧ va_at g.1 vwCl (aL g ao f9) H ∧ RR nb2 nl2 nr2 ne2 pr2 t2 (mAddLift M nl (xs (4 * j + 1))).2 ∧ ((if (xs (4 * j + 1)) < 1 then 1 else if (xs (4 * j + 1)) ≤ 4 then (if nI nl < 3 then 0 else 2) else 1) = 0 → f9 0 = ((mAddLift M nl (xs (4 * j + 1))).1).toInt64) := by
    by_cases hk : (if (xs (4 * j + 1)) < 1 then 1 else if (xs (4 * j + 1)) ≤ 4 then (if nI nl < 3 then 0 else 2) else 1) = 0
    · obtain ⟨⟨A2, hA2, h1⟩, f9, h2, h3⟩ := hok hk
      obtain ⟨o4, o5⟩ := o2 hk
      exact ⟨A2, _, _, _, _, _, _, f9, hA2, h1, h3, o5, fun _ => by rw [h2, o4]⟩
    · obtain ⟨h1, f9, h2⟩ := hbad hk
      exact ⟨A, _, _, _, _, _, _, f9, rfl, h1, h2, o3 hk, fun z => absurd z hk⟩
  obtain ⟨A2, nb2, nl2, nr2, ne2, pr2, t2, f9, hA2, hPD2, hao2, hRR2, hans⟩ := hmid
  have hk10 : (if (xs (4 * j + 1)) < 1 then 1 else if (xs (4 * j + 1)) ≤ 4 then (if nI nl < 3 then 0 else 2) else 1) < 10 := by (repeat' split) <;> decide
  obtain ⟨kc, hkc⟩ : ∃ kc, kc = (if (xs (4 * j + 1)) < 1 then 1 else if (xs (4 * j + 1)) ≤ 4 then (if nI nl < 3 then 0 else 2) else 1) := ⟨_, rfl⟩
  refine lv_istore (lv' := (6, .int (nI (if (xs (4 * j + 1)) < 1 then 1 else if (xs (4 * j + 1)) ≤ 4 then (if nI nl < 3 then 0 else 2) else 1))) :: LBs j bs (A 0 0) om ao d9) hx hb dL_law_187 hl (by decide) rfl (fun ls hl => ?_)
  rw [← hkc] at hl o1 hans hk10
  refine lv_aload_n hx hb dL_law_189 rfl (lv_at hl 4 rfl) ?_
  refine l_arg hx hb hX hbl hS hl 2 1 rfl rfl (i := 1) rfl (by omega) hL dL_law_190 dL_law_191 dL_law_193 dL_law_194 dL_law_195 ?_
  refine l_model E hc hS (c_X5_addLift l g (FMd om ad) om ad M nl (xs (4 * j + 1)) hN.2.2.1 h8.2.1) ok_X5_addLift lk_L_112 rfl hPM rfl hl ⟨rfl, rfl⟩ rfl ⟨room_cj (k := 3) hj (by omega), room_sj (k := 174) hj (by omega)⟩ dL_law_196 rfl hPD2 hao2 hd9 (fun v H locs hv hS hPD2 hao2 hd9 => ?_)
  obtain ⟨rfl, hPM⟩ := hv
  refine lv_istore (lv' := (7, .int (mAddLift M nl (xs (4 * j + 1))).1) :: (6, .int (nI kc)) :: LBs j bs (A 0 0) om ao d9) hx hb dL_law_199 hl (by decide) rfl (fun ls hl => ?_)
  exact l_tail E hc lk_L_113 hn (kc := kc) (ans := (mAddLift M nl (xs (4 * j + 1))).1) o1 hk10 hans hA2 hPD2 hPM hao2 hd9 hRR2 hS hl hj (by omega) (by omega) 201 (by decide) dL_law_201 dL_law_202 dL_law_205 dL_law_207 dL_law_212 dL_law_214 dL_law_217 dL_law_218 dL_law_219 dL_law_220 dL_law_222 dL_law_223 dL_law_224 dL_law_229
set_option maxHeartbeats 4000000 in
set_option maxRecDepth 100000 in
theorem law_1 (E : EN p s m c cL_law 9 args RL g (F0k s.heap.size)) (hl9 : l.stackTraces = false) (hc : LCn s.heap.size om ao d9 ad) (hX : va_X bs L xs s s.heap) (hbl : bs < s.heap.size) (hjL : 4 * j + 4 ≤ L) (hL : L ≤ 2048) (hn : LAt p l e s m args below meth c Q g bs x om ao d9 ad 28 (j + 1)) : LAt p l e s m args below meth c Q g bs x om ao d9 ad 232 j := by
  intro A nb nl nr ne pr t M f f2 H locs ls hA hPD hPM hao hd9 hRR hS hl
  have hx := E.1
  have hb := E.2.1
  have hj : j < 512 := by omega
  have hN := hRR.2.1
  have h8 := hRR.b8
  have hl : lv_has ls 9 (LBs j bs x om ao d9) := hl

  subst hA
  refine lv_aload_n hx hb dL_law_232 rfl (lv_at hl 2 rfl) ?_
  refine l_arg hx hb hX hbl hS hl 1 0 rfl rfl (i := 1) rfl (by omega) hL dL_law_233 dL_law_234 dL_law_236 dL_law_237 dL_law_238 ?_
  refine l_arg hx hb hX hbl hS hl 1 0 rfl rfl (i := 2) rfl (by omega) hL dL_law_239 dL_law_240 dL_law_242 dL_law_243 dL_law_244 ?_
  refine lv_aload_n hx hb dL_law_245 rfl (lv_at hl 4 rfl) ?_
  refine l_wrap E hS (w_setTenant l g (FBk s.heap.size om ad d9) A nb nl nr ne pr t hl9 ao (by exact FB_ao hc) (xs (4 * j + 1)) (xs (4 * j + 2))) okw_setTenant lk_L_116 hPD hao hd9 hPM rfl hl ⟨rfl, rfl⟩ rfl ⟨room_cj (k := 4) hj (by omega), room_sj (k := 24) hj (by omega)⟩ dL_law_246 rfl (fun v H locs hv hS hPM hd9 => ?_)
  obtain ⟨rfl, hok, hbad⟩ := hv
  obtain ⟨o1, o2, o3⟩ := op_setTenant hRR (xs (4 * j + 1)) (xs (4 * j + 2))
  have hmid : ∃ (A2 : Nat → Nat → Nat) (nb2 nl2 nr2 ne2 : Nat) (pr2 : List Nat) (t2 : TT) (f9 : Nat → Int64), A2 0 0 = A 0 0 ∧ PD g (fW (FBk s.heap.size om ad d9) ao) A2 nb2 nl2 nr2 ne2 pr2 t2 H ∧ va_at g.1 vwCl (aL g ao f9) H ∧ RR nb2 nl2 nr2 ne2 pr2 t2 (mSetTenant M (xs (4 * j + 1)) (xs (4 * j + 2))).2 ∧ ((if (xs (4 * j + 1)) ≤ 0 then 1 else if (xs (4 * j + 1)) < 10 then (if (xs (4 * j + 2)) < -1 then 2 else if (xs (4 * j + 2)) < 4 then 0 else 2) else 1) = 0 → f9 0 = ((mSetTenant M (xs (4 * j + 1)) (xs (4 * j + 2))).1).toInt64) := by
    by_cases hk : (if (xs (4 * j + 1)) ≤ 0 then 1 else if (xs (4 * j + 1)) < 10 then (if (xs (4 * j + 2)) < -1 then 2 else if (xs (4 * j + 2)) < 4 then 0 else 2) else 1) = 0
    · obtain ⟨h1, f9, h2, h3⟩ := hok hk
      obtain ⟨o4, o5⟩ := o2 hk
      exact ⟨A, _, _, _, _, _, _, f9, rfl, h1, h3, o5, fun _ => by rw [h2, o4]⟩
    · obtain ⟨h1, f9, h2⟩ := hbad hk
      exact ⟨A, _, _, _, _, _, _, f9, rfl, h1, h2, o3 hk, fun z => absurd z hk⟩
  obtain ⟨A2, nb2, nl2, nr2, ne2, pr2, t2, f9, hA2, hPD2, hao2, hRR2, hans⟩ := hmid
  have hk10 : (if (xs (4 * j + 1)) ≤ 0 then 1 else if (xs (4 * j + 1)) < 10 then (if (xs (4 * j + 2)) < -1 then 2 else if (xs (4 * j + 2)) < 4 then 0 else 2) else 1) < 10 := by (repeat' split) <;> decide
  obtain ⟨kc, hkc⟩ : ∃ kc, kc = (if (xs (4 * j + 1)) ≤ 0 then 1 else if (xs (4 * j + 1)) < 10 then (if (xs (4 * j + 2)) < -1 then 2 else if (xs (4 * j + 2)) < 4 then 0 else 2) else 1) := ⟨_, rfl⟩
  refine lv_istore (lv' := (6, .int (nI (if (xs (4 * j + 1)) ≤ 0 then 1 else if (xs (4 * j + 1)) < 10 then (if (xs (4 * j + 2)) < -1 then 2 else if (xs (4 * j + 2)) < 4 then 0 else 2) else 1))) :: LBs j bs (A 0 0) om ao d9) hx hb dL_law_249 hl (by decide) rfl (fun ls hl => ?_)
  rw [← hkc] at hl o1 hans hk10
  refine lv_aload_n hx hb dL_law_251 rfl (lv_at hl 4 rfl) ?_
  refine l_arg hx hb hX hbl hS hl 2 1 rfl rfl (i := 1) rfl (by omega) hL dL_law_252 dL_law_253 dL_law_255 dL_law_256 dL_law_257 ?_
  refine l_arg hx hb hX hbl hS hl 2 1 rfl rfl (i := 2) rfl (by omega) hL dL_law_258 dL_law_259 dL_law_261 dL_law_262 dL_law_263 ?_
  refine l_model E hc hS (c_X5_setTenant l g (FMd om ad) om ad M (xs (4 * j + 1)) (xs (4 * j + 2))) ok_X5_setTenant lk_L_119 rfl hPM rfl hl ⟨rfl, rfl⟩ rfl ⟨room_cj (k := 4) hj (by omega), room_sj (k := 24) hj (by omega)⟩ dL_law_264 rfl hPD2 hao2 hd9 (fun v H locs hv hS hPD2 hao2 hd9 => ?_)
  obtain ⟨rfl, hPM⟩ := hv
  refine lv_istore (lv' := (7, .int (mSetTenant M (xs (4 * j + 1)) (xs (4 * j + 2))).1) :: (6, .int (nI kc)) :: LBs j bs (A 0 0) om ao d9) hx hb dL_law_267 hl (by decide) rfl (fun ls hl => ?_)
  exact l_tail E hc lk_L_113 hn (kc := kc) (ans := (mSetTenant M (xs (4 * j + 1)) (xs (4 * j + 2))).1) o1 hk10 hans hA2 hPD2 hPM hao2 hd9 hRR2 hS hl hj (by omega) (by omega) 269 (by decide) dL_law_269 dL_law_270 dL_law_273 dL_law_275 dL_law_280 dL_law_282 dL_law_285 dL_law_286 dL_law_287 dL_law_288 dL_law_290 dL_law_291 dL_law_292 dL_law_297
set_option maxHeartbeats 4000000 in
set_option maxRecDepth 100000 in
theorem law_2 (E : EN p s m c cL_law 9 args RL g (F0k s.heap.size)) (hl9 : l.stackTraces = false) (hc : LCn s.heap.size om ao d9 ad) (hX : va_X bs L xs s s.heap) (hbl : bs < s.heap.size) (hjL : 4 * j + 4 ≤ L) (hL : L ≤ 2048) (hn : LAt p l e s m args below meth c Q g bs x om ao d9 ad 28 (j + 1)) : LAt p l e s m args below meth c Q g bs x om ao d9 ad 300 j := by
  intro A nb nl nr ne pr t M f f2 H locs ls hA hPD hPM hao hd9 hRR hS hl
  have hx := E.1
  have hb := E.2.1
  have hj : j < 512 := by omega
  have hN := hRR.2.1
  have h8 := hRR.b8
  have hl : lv_has ls 9 (LBs j bs x om ao d9) := hl

  subst hA
  refine lv_aload_n hx hb dL_law_300 rfl (lv_at hl 2 rfl) ?_
  refine l_arg hx hb hX hbl hS hl 1 0 rfl rfl (i := 1) rfl (by omega) hL dL_law_301 dL_law_302 dL_law_304 dL_law_305 dL_law_306 ?_
  refine l_arg hx hb hX hbl hS hl 1 0 rfl rfl (i := 2) rfl (by omega) hL dL_law_307 dL_law_308 dL_law_310 dL_law_311 dL_law_312 ?_
  refine l_arg hx hb hX hbl hS hl 1 0 rfl rfl (i := 3) rfl (by omega) hL dL_law_313 dL_law_314 dL_law_316 dL_law_317 dL_law_318 ?_
  refine lv_aload_n hx hb dL_law_319 rfl (lv_at hl 4 rfl) ?_
  refine l_wrap E hS (w_setHours l g (FBk s.heap.size om ad d9) A nb nl nr ne pr t hl9 ao (by exact FB_ao hc) (xs (4 * j + 1)) (xs (4 * j + 2)) (xs (4 * j + 3))) okw_setHours lk_L_120 hPD hao hd9 hPM rfl hl ⟨rfl, rfl⟩ rfl ⟨room_cj (k := 4) hj (by omega), room_sj (k := 24) hj (by omega)⟩ dL_law_320 rfl (fun v H locs hv hS hPM hd9 => ?_)
  obtain ⟨rfl, hok, hbad⟩ := hv
  obtain ⟨o1, o2, o3⟩ := op_setHours hRR (xs (4 * j + 1)) (xs (4 * j + 2)) (xs (4 * j + 3))
  have hmid : ∃ (A2 : Nat → Nat → Nat) (nb2 nl2 nr2 ne2 : Nat) (pr2 : List Nat) (t2 : TT) (f9 : Nat → Int64), A2 0 0 = A 0 0 ∧ PD g (fW (FBk s.heap.size om ad d9) ao) A2 nb2 nl2 nr2 ne2 pr2 t2 H ∧ va_at g.1 vwCl (aL g ao f9) H ∧ RR nb2 nl2 nr2 ne2 pr2 t2 (mSetHours M (xs (4 * j + 1)) (xs (4 * j + 2)) (xs (4 * j + 3))).2 ∧ ((if (xs (4 * j + 1)) ≤ 0 then 1 else if (xs (4 * j + 1)) < 10 then (if (xs (4 * j + 2)) < 0 then 2 else if (xs (4 * j + 2)) < 100 then (if (xs (4 * j + 2)) < (xs (4 * j + 3)) then (if (xs (4 * j + 3)) ≤ 100 then 0 else 2) else 2) else 2) else 1) = 0 → f9 0 = ((mSetHours M (xs (4 * j + 1)) (xs (4 * j + 2)) (xs (4 * j + 3))).1).toInt64) := by
    by_cases hk : (if (xs (4 * j + 1)) ≤ 0 then 1 else if (xs (4 * j + 1)) < 10 then (if (xs (4 * j + 2)) < 0 then 2 else if (xs (4 * j + 2)) < 100 then (if (xs (4 * j + 2)) < (xs (4 * j + 3)) then (if (xs (4 * j + 3)) ≤ 100 then 0 else 2) else 2) else 2) else 1) = 0
    · obtain ⟨h1, f9, h2, h3⟩ := hok hk
      obtain ⟨o4, o5⟩ := o2 hk
      exact ⟨A, _, _, _, _, _, _, f9, rfl, h1, h3, o5, fun _ => by rw [h2, o4]⟩
    · obtain ⟨h1, f9, h2⟩ := hbad hk
      exact ⟨A, _, _, _, _, _, _, f9, rfl, h1, h2, o3 hk, fun z => absurd z hk⟩
  obtain ⟨A2, nb2, nl2, nr2, ne2, pr2, t2, f9, hA2, hPD2, hao2, hRR2, hans⟩ := hmid
  have hk10 : (if (xs (4 * j + 1)) ≤ 0 then 1 else if (xs (4 * j + 1)) < 10 then (if (xs (4 * j + 2)) < 0 then 2 else if (xs (4 * j + 2)) < 100 then (if (xs (4 * j + 2)) < (xs (4 * j + 3)) then (if (xs (4 * j + 3)) ≤ 100 then 0 else 2) else 2) else 2) else 1) < 10 := by (repeat' split) <;> decide
  obtain ⟨kc, hkc⟩ : ∃ kc, kc = (if (xs (4 * j + 1)) ≤ 0 then 1 else if (xs (4 * j + 1)) < 10 then (if (xs (4 * j + 2)) < 0 then 2 else if (xs (4 * j + 2)) < 100 then (if (xs (4 * j + 2)) < (xs (4 * j + 3)) then (if (xs (4 * j + 3)) ≤ 100 then 0 else 2) else 2) else 2) else 1) := ⟨_, rfl⟩
  refine lv_istore (lv' := (6, .int (nI (if (xs (4 * j + 1)) ≤ 0 then 1 else if (xs (4 * j + 1)) < 10 then (if (xs (4 * j + 2)) < 0 then 2 else if (xs (4 * j + 2)) < 100 then (if (xs (4 * j + 2)) < (xs (4 * j + 3)) then (if (xs (4 * j + 3)) ≤ 100 then 0 else 2) else 2) else 2) else 1))) :: LBs j bs (A 0 0) om ao d9) hx hb dL_law_323 hl (by decide) rfl (fun ls hl => ?_)
  rw [← hkc] at hl o1 hans hk10
  refine lv_aload_n hx hb dL_law_325 rfl (lv_at hl 4 rfl) ?_
  refine l_arg hx hb hX hbl hS hl 2 1 rfl rfl (i := 1) rfl (by omega) hL dL_law_326 dL_law_327 dL_law_329 dL_law_330 dL_law_331 ?_
  refine l_arg hx hb hX hbl hS hl 2 1 rfl rfl (i := 2) rfl (by omega) hL dL_law_332 dL_law_333 dL_law_335 dL_law_336 dL_law_337 ?_
  refine l_arg hx hb hX hbl hS hl 2 1 rfl rfl (i := 3) rfl (by omega) hL dL_law_338 dL_law_339 dL_law_341 dL_law_342 dL_law_343 ?_
  refine l_model E hc hS (c_X5_setHours l g (FMd om ad) om ad M (xs (4 * j + 1)) (xs (4 * j + 2)) (xs (4 * j + 3))) ok_X5_setHours lk_L_123 rfl hPM rfl hl ⟨rfl, rfl⟩ rfl ⟨room_cj (k := 4) hj (by omega), room_sj (k := 24) hj (by omega)⟩ dL_law_344 rfl hPD2 hao2 hd9 (fun v H locs hv hS hPD2 hao2 hd9 => ?_)
  obtain ⟨rfl, hPM⟩ := hv
  refine lv_istore (lv' := (7, .int (mSetHours M (xs (4 * j + 1)) (xs (4 * j + 2)) (xs (4 * j + 3))).1) :: (6, .int (nI kc)) :: LBs j bs (A 0 0) om ao d9) hx hb dL_law_347 hl (by decide) rfl (fun ls hl => ?_)
  exact l_tail E hc lk_L_113 hn (kc := kc) (ans := (mSetHours M (xs (4 * j + 1)) (xs (4 * j + 2)) (xs (4 * j + 3))).1) o1 hk10 hans hA2 hPD2 hPM hao2 hd9 hRR2 hS hl hj (by omega) (by omega) 349 (by decide) dL_law_349 dL_law_350 dL_law_353 dL_law_355 dL_law_360 dL_law_362 dL_law_365 dL_law_366 dL_law_367 dL_law_368 dL_law_370 dL_law_371 dL_law_372 dL_law_377
set_option maxHeartbeats 4000000 in
set_option maxRecDepth 100000 in
theorem law_3 (E : EN p s m c cL_law 9 args RL g (F0k s.heap.size)) (hl9 : l.stackTraces = false) (hc : LCn s.heap.size om ao d9 ad) (hX : va_X bs L xs s s.heap) (hbl : bs < s.heap.size) (hjL : 4 * j + 4 ≤ L) (hL : L ≤ 2048) (hn : LAt p l e s m args below meth c Q g bs x om ao d9 ad 28 (j + 1)) : LAt p l e s m args below meth c Q g bs x om ao d9 ad 380 j := by
  intro A nb nl nr ne pr t M f f2 H locs ls hA hPD hPM hao hd9 hRR hS hl
  have hx := E.1
  have hb := E.2.1
  have hj : j < 512 := by omega
  have hN := hRR.2.1
  have h8 := hRR.b8
  have hl : lv_has ls 9 (LBs j bs x om ao d9) := hl

  subst hA
  refine lv_aload_n hx hb dL_law_380 rfl (lv_at hl 2 rfl) ?_
  refine l_arg hx hb hX hbl hS hl 1 0 rfl rfl (i := 1) rfl (by omega) hL dL_law_381 dL_law_382 dL_law_384 dL_law_385 dL_law_386 ?_
  refine lv_aload_n hx hb dL_law_387 rfl (lv_at hl 4 rfl) ?_
  refine l_wrap E hS (w_addBadge l g (FBk s.heap.size om ad d9) A nb nl nr ne pr t hl9 ao (by exact FB_ao hc) (xs (4 * j + 1))) okw_addBadge lk_L_124 hPD hao hd9 hPM rfl hl ⟨rfl, rfl⟩ rfl ⟨room_cj (k := 3) hj (by omega), room_sj (k := 170) hj (by omega)⟩ dL_law_388 rfl (fun v H locs hv hS hPM hd9 => ?_)
  obtain ⟨rfl, hok, hbad⟩ := hv
  obtain ⟨o1, o2, o3⟩ := op_addBadge hRR (xs (4 * j + 1))
  have hmid : ∃ (A2 : Nat → Nat → Nat) (nb2 nl2 nr2 ne2 : Nat) (pr2 : List Nat) (t2 : TT) (f9 : Nat → Int64), A2 0 0 = A 0 0 ∧ PD g (fW (FBk s.heap.size om ad d9) ao) A2 nb2 nl2 nr2 ne2 pr2 t2 H ∧ va_at g.1 vwCl (aL g ao f9) H ∧ RR nb2 nl2 nr2 ne2 pr2 t2 (mAddBadge M nb (xs (4 * j + 1))).2 ∧ ((if (xs (4 * j + 1)) < 0 then 1 else if (xs (4 * j + 1)) < 4 then (if nI nb < 8 then 0 else 2) else 1) = 0 → f9 0 = ((mAddBadge M nb (xs (4 * j + 1))).1).toInt64) := by
    by_cases hk : (if (xs (4 * j + 1)) < 0 then 1 else if (xs (4 * j + 1)) < 4 then (if nI nb < 8 then 0 else 2) else 1) = 0
    · obtain ⟨⟨A2, hA2, h1⟩, f9, h2, h3⟩ := hok hk
      obtain ⟨o4, o5⟩ := o2 hk
      exact ⟨A2, _, _, _, _, _, _, f9, hA2, h1, h3, o5, fun _ => by rw [h2, o4]⟩
    · obtain ⟨h1, f9, h2⟩ := hbad hk
      exact ⟨A, _, _, _, _, _, _, f9, rfl, h1, h2, o3 hk, fun z => absurd z hk⟩
  obtain ⟨A2, nb2, nl2, nr2, ne2, pr2, t2, f9, hA2, hPD2, hao2, hRR2, hans⟩ := hmid
  have hk10 : (if (xs (4 * j + 1)) < 0 then 1 else if (xs (4 * j + 1)) < 4 then (if nI nb < 8 then 0 else 2) else 1) < 10 := by (repeat' split) <;> decide
  obtain ⟨kc, hkc⟩ : ∃ kc, kc = (if (xs (4 * j + 1)) < 0 then 1 else if (xs (4 * j + 1)) < 4 then (if nI nb < 8 then 0 else 2) else 1) := ⟨_, rfl⟩
  refine lv_istore (lv' := (6, .int (nI (if (xs (4 * j + 1)) < 0 then 1 else if (xs (4 * j + 1)) < 4 then (if nI nb < 8 then 0 else 2) else 1))) :: LBs j bs (A 0 0) om ao d9) hx hb dL_law_391 hl (by decide) rfl (fun ls hl => ?_)
  rw [← hkc] at hl o1 hans hk10
  refine lv_aload_n hx hb dL_law_393 rfl (lv_at hl 4 rfl) ?_
  refine l_arg hx hb hX hbl hS hl 2 1 rfl rfl (i := 1) rfl (by omega) hL dL_law_394 dL_law_395 dL_law_397 dL_law_398 dL_law_399 ?_
  refine l_model E hc hS (c_X5_addBadge l g (FMd om ad) om ad M nb (xs (4 * j + 1)) hN.1 h8.1) ok_X5_addBadge lk_L_126 rfl hPM rfl hl ⟨rfl, rfl⟩ rfl ⟨room_cj (k := 3) hj (by omega), room_sj (k := 170) hj (by omega)⟩ dL_law_400 rfl hPD2 hao2 hd9 (fun v H locs hv hS hPD2 hao2 hd9 => ?_)
  obtain ⟨rfl, hPM⟩ := hv
  refine lv_istore (lv' := (7, .int (mAddBadge M nb (xs (4 * j + 1))).1) :: (6, .int (nI kc)) :: LBs j bs (A 0 0) om ao d9) hx hb dL_law_403 hl (by decide) rfl (fun ls hl => ?_)
  exact l_tail E hc lk_L_113 hn (kc := kc) (ans := (mAddBadge M nb (xs (4 * j + 1))).1) o1 hk10 hans hA2 hPD2 hPM hao2 hd9 hRR2 hS hl hj (by omega) (by omega) 405 (by decide) dL_law_405 dL_law_406 dL_law_409 dL_law_411 dL_law_416 dL_law_418 dL_law_421 dL_law_422 dL_law_423 dL_law_424 dL_law_426 dL_law_427 dL_law_428 dL_law_433
set_option maxHeartbeats 4000000 in
set_option maxRecDepth 100000 in
theorem law_4 (E : EN p s m c cL_law 9 args RL g (F0k s.heap.size)) (hl9 : l.stackTraces = false) (hc : LCn s.heap.size om ao d9 ad) (hX : va_X bs L xs s s.heap) (hbl : bs < s.heap.size) (hjL : 4 * j + 4 ≤ L) (hL : L ≤ 2048) (hn : LAt p l e s m args below meth c Q g bs x om ao d9 ad 28 (j + 1)) : LAt p l e s m args below meth c Q g bs x om ao d9 ad 436 j := by
  intro A nb nl nr ne pr t M f f2 H locs ls hA hPD hPM hao hd9 hRR hS hl
  have hx := E.1
  have hb := E.2.1
  have hj : j < 512 := by omega
  have hN := hRR.2.1
  have h8 := hRR.b8
  have hl : lv_has ls 9 (LBs j bs x om ao d9) := hl

  obtain ⟨V2, hV2⟩ : ∃ V2 : Int32, V2 = (if (xs (4 * j + 2)) = 0 then 0 else 1) := ⟨_, rfl⟩
  have hv01 : V2 = 0 ∨ V2 = 1 := by rw [hV2]; split; exact Or.inl rfl; exact Or.inr rfl
  have hv2 : narrow .boolean (.int V2) = .int V2 := by rcases hv01 with z | z <;> rw [z] <;> rfl
  have hZ5 : ∀ j, j < nb → M 5 j = 0 ∨ M 5 j = 1 := by rw [← hRR.1.r 5]; exact hRR.2.2.2.2.2.2.1.2.2.1
  subst hA
  refine lv_aload_n hx hb dL_law_436 rfl (lv_at hl 2 rfl) ?_
  refine l_arg hx hb hX hbl hS hl 1 0 rfl rfl (i := 1) rfl (by omega) hL dL_law_437 dL_law_438 dL_law_440 dL_law_441 dL_law_442 ?_
  refine l_arg hx hb hX hbl hS hl 1 0 rfl rfl (i := 2) rfl (by omega) hL dL_law_443 dL_law_444 dL_law_446 dL_law_447 dL_law_448 ?_
  refine l_bool hx hb 449 dL_law_449 dL_law_452 dL_law_453 dL_law_456 ?_
  rw [← hV2]
  refine lv_aload_n hx hb dL_law_457 rfl (lv_at hl 4 rfl) ?_
  refine l_wrap E hS (w_setRevoked l g (FBk s.heap.size om ad d9) A nb nl nr ne pr t hl9 ao (by exact FB_ao hc) (xs (4 * j + 1)) V2 hv2) okw_setRevoked lk_L_127 hPD hao hd9 hPM rfl hl ⟨rfl, rfl⟩ rfl ⟨room_cj (k := 4) hj (by omega), room_sj (k := 24) hj (by omega)⟩ dL_law_458 rfl (fun v H locs hv hS hPM hd9 => ?_)
  obtain ⟨rfl, hok, hbad⟩ := hv
  obtain ⟨o1, o2, o3⟩ := op_setRevoked hRR (xs (4 * j + 1)) V2 hv01
  have hmid : ∃ (A2 : Nat → Nat → Nat) (nb2 nl2 nr2 ne2 : Nat) (pr2 : List Nat) (t2 : TT) (f9 : Nat → Int64), A2 0 0 = A 0 0 ∧ PD g (fW (FBk s.heap.size om ad d9) ao) A2 nb2 nl2 nr2 ne2 pr2 t2 H ∧ va_at g.1 vwCl (aL g ao f9) H ∧ RR nb2 nl2 nr2 ne2 pr2 t2 (mSetRevoked M nb (xs (4 * j + 1)) V2).2 ∧ ((if dcN (xs (4 * j + 1)) nb = 0 then 0 else 1) = 0 → f9 0 = (if (mSetRevoked M nb (xs (4 * j + 1)) V2).1 = 0 then 0 else 1 : Int64)) := by
    by_cases hk : (if dcN (xs (4 * j + 1)) nb = 0 then 0 else 1) = 0
    · obtain ⟨h1, f9, h2, h3⟩ := hok hk
      obtain ⟨o4, o5⟩ := o2 hk
      exact ⟨A, _, _, _, _, _, _, f9, rfl, h1, h3, o5, fun _ => by rw [h2, o4]⟩
    · obtain ⟨h1, f9, h2⟩ := hbad hk
      exact ⟨A, _, _, _, _, _, _, f9, rfl, h1, h2, o3 hk, fun z => absurd z hk⟩
  obtain ⟨A2, nb2, nl2, nr2, ne2, pr2, t2, f9, hA2, hPD2, hao2, hRR2, hans⟩ := hmid
  have hk10 : (if dcN (xs (4 * j + 1)) nb = 0 then 0 else 1) < 10 := by (repeat' split) <;> decide
  obtain ⟨kc, hkc⟩ : ∃ kc, kc = (if dcN (xs (4 * j + 1)) nb = 0 then 0 else 1) := ⟨_, rfl⟩
  refine lv_istore (lv' := (6, .int (nI (if dcN (xs (4 * j + 1)) nb = 0 then 0 else 1))) :: LBs j bs (A 0 0) om ao d9) hx hb dL_law_461 hl (by decide) rfl (fun ls hl => ?_)
  rw [← hkc] at hl o1 hans hk10
  refine lv_aload_n hx hb dL_law_463 rfl (lv_at hl 4 rfl) ?_
  refine l_arg hx hb hX hbl hS hl 2 1 rfl rfl (i := 1) rfl (by omega) hL dL_law_464 dL_law_465 dL_law_467 dL_law_468 dL_law_469 ?_
  refine l_arg hx hb hX hbl hS hl 2 1 rfl rfl (i := 2) rfl (by omega) hL dL_law_470 dL_law_471 dL_law_473 dL_law_474 dL_law_475 ?_
  refine l_bool hx hb 476 dL_law_476 dL_law_479 dL_law_480 dL_law_483 ?_
  rw [← hV2]
  refine l_model E hc hS (c_X5_setRevoked l g (FMd om ad) om ad M nb (xs (4 * j + 1)) V2 hN.1 h8.1 hZ5 hv2) ok_X5_setRevoked lk_L_130 rfl hPM rfl hl ⟨rfl, rfl⟩ rfl ⟨room_cj (k := 4) hj (by omega), room_sj (k := 24) hj (by omega)⟩ dL_law_484 rfl hPD2 hao2 hd9 (fun v H locs hv hS hPD2 hao2 hd9 => ?_)
  obtain ⟨rfl, hPM⟩ := hv
  refine lv_istore (lv' := (7, .int (mSetRevoked M nb (xs (4 * j + 1)) V2).1) :: (6, .int (nI kc)) :: LBs j bs (A 0 0) om ao d9) hx hb dL_law_487 hl (by decide) rfl (fun ls hl => ?_)
  exact l_tailB E hc lk_L_113 hn (kc := kc) (ans := (mSetRevoked M nb (xs (4 * j + 1)) V2).1) o1 hk10 hans hA2 hPD2 hPM hao2 hd9 hRR2 hS hl hj (by omega) (by omega) 489 (by decide) dL_law_489 dL_law_490 dL_law_493 dL_law_495 dL_law_500 dL_law_502 dL_law_505 dL_law_506 dL_law_507 dL_law_508 dL_law_510 dL_law_513 dL_law_514 dL_law_517 dL_law_518 dL_law_519 dL_law_524
set_option maxHeartbeats 4000000 in
set_option maxRecDepth 100000 in
theorem law_5 (E : EN p s m c cL_law 9 args RL g (F0k s.heap.size)) (hl9 : l.stackTraces = false) (hc : LCn s.heap.size om ao d9 ad) (hX : va_X bs L xs s s.heap) (hbl : bs < s.heap.size) (hjL : 4 * j + 4 ≤ L) (hL : L ≤ 2048) (hn : LAt p l e s m args below meth c Q g bs x om ao d9 ad 28 (j + 1)) : LAt p l e s m args below meth c Q g bs x om ao d9 ad 527 j := by
  intro A nb nl nr ne pr t M f f2 H locs ls hA hPD hPM hao hd9 hRR hS hl
  have hx := E.1
  have hb := E.2.1
  have hj : j < 512 := by omega
  have hN := hRR.2.1
  have h8 := hRR.b8
  have hl : lv_has ls 9 (LBs j bs x om ao d9) := hl

  subst hA
  refine lv_aload_n hx hb dL_law_527 rfl (lv_at hl 2 rfl) ?_
  refine l_arg hx hb hX hbl hS hl 1 0 rfl rfl (i := 1) rfl (by omega) hL dL_law_528 dL_law_529 dL_law_531 dL_law_532 dL_law_533 ?_
  refine l_arg hx hb hX hbl hS hl 1 0 rfl rfl (i := 2) rfl (by omega) hL dL_law_534 dL_law_535 dL_law_537 dL_law_538 dL_law_539 ?_
  refine lv_aload_n hx hb dL_law_540 rfl (lv_at hl 4 rfl) ?_
  refine l_wrap E hS (w_reason l g (FBk s.heap.size om ad d9) A nb nl nr ne pr t hl9 ao (by exact FB_ao hc) (xs (4 * j + 1)) (xs (4 * j + 2))) okw_reason lk_L_131 hPD hao hd9 hPM rfl hl ⟨rfl, rfl⟩ rfl ⟨room_cj (k := 4) hj (by omega), room_sj (k := 24) hj (by omega)⟩ dL_law_541 rfl (fun v H locs hv hS hPM hd9 => ?_)
  obtain ⟨rfl, hok, hbad⟩ := hv
  obtain ⟨o1, o2, o3⟩ := op_reason hRR (xs (4 * j + 1)) (xs (4 * j + 2))
  have hmid : ∃ (A2 : Nat → Nat → Nat) (nb2 nl2 nr2 ne2 : Nat) (pr2 : List Nat) (t2 : TT) (f9 : Nat → Int64), A2 0 0 = A 0 0 ∧ PD g (fW (FBk s.heap.size om ad d9) ao) A2 nb2 nl2 nr2 ne2 pr2 t2 H ∧ va_at g.1 vwCl (aL g ao f9) H ∧ RR nb2 nl2 nr2 ne2 pr2 t2 (mReason M nb (xs (4 * j + 1)) (xs (4 * j + 2))).2 ∧ ((if dcN (xs (4 * j + 1)) nb = 0 then (if dcF (xs (4 * j + 2)) = 0 then 0 else 1) else 1) = 0 → f9 0 = ((mReason M nb (xs (4 * j + 1)) (xs (4 * j + 2))).1).toInt64) := by
    by_cases hk : (if dcN (xs (4 * j + 1)) nb = 0 then (if dcF (xs (4 * j + 2)) = 0 then 0 else 1) else 1) = 0
    · obtain ⟨h1, f9, h2, h3⟩ := hok hk
      obtain ⟨o4, o5⟩ := o2 hk
      exact ⟨A, _, _, _, _, _, _, f9, rfl, h1, h3, o5, fun _ => by rw [h2, o4]⟩
    · obtain ⟨h1, f9, h2⟩ := hbad hk
      exact ⟨A, _, _, _, _, _, _, f9, rfl, h1, h2, o3 hk, fun z => absurd z hk⟩
  obtain ⟨A2, nb2, nl2, nr2, ne2, pr2, t2, f9, hA2, hPD2, hao2, hRR2, hans⟩ := hmid
  have hk10 : (if dcN (xs (4 * j + 1)) nb = 0 then (if dcF (xs (4 * j + 2)) = 0 then 0 else 1) else 1) < 10 := by (repeat' split) <;> decide
  obtain ⟨kc, hkc⟩ : ∃ kc, kc = (if dcN (xs (4 * j + 1)) nb = 0 then (if dcF (xs (4 * j + 2)) = 0 then 0 else 1) else 1) := ⟨_, rfl⟩
  refine lv_istore (lv' := (6, .int (nI (if dcN (xs (4 * j + 1)) nb = 0 then (if dcF (xs (4 * j + 2)) = 0 then 0 else 1) else 1))) :: LBs j bs (A 0 0) om ao d9) hx hb dL_law_544 hl (by decide) rfl (fun ls hl => ?_)
  rw [← hkc] at hl o1 hans hk10
  refine lv_aload_n hx hb dL_law_546 rfl (lv_at hl 4 rfl) ?_
  refine l_arg hx hb hX hbl hS hl 2 1 rfl rfl (i := 1) rfl (by omega) hL dL_law_547 dL_law_548 dL_law_550 dL_law_551 dL_law_552 ?_
  refine l_arg hx hb hX hbl hS hl 2 1 rfl rfl (i := 2) rfl (by omega) hL dL_law_553 dL_law_554 dL_law_556 dL_law_557 dL_law_558 ?_
  refine l_model E hc hS (c_X5_reason l g (FMd om ad) om ad M nb (xs (4 * j + 1)) (xs (4 * j + 2)) hN.1 h8.1) ok_X5_reason lk_L_133 rfl hPM rfl hl ⟨rfl, rfl⟩ rfl ⟨room_cj (k := 4) hj (by omega), room_sj (k := 24) hj (by omega)⟩ dL_law_559 rfl hPD2 hao2 hd9 (fun v H locs hv hS hPD2 hao2 hd9 => ?_)
  obtain ⟨rfl, hPM⟩ := hv
  refine lv_istore (lv' := (7, .int (mReason M nb (xs (4 * j + 1)) (xs (4 * j + 2))).1) :: (6, .int (nI kc)) :: LBs j bs (A 0 0) om ao d9) hx hb dL_law_562 hl (by decide) rfl (fun ls hl => ?_)
  exact l_tail E hc lk_L_113 hn (kc := kc) (ans := (mReason M nb (xs (4 * j + 1)) (xs (4 * j + 2))).1) o1 hk10 hans hA2 hPD2 hPM hao2 hd9 hRR2 hS hl hj (by omega) (by omega) 564 (by decide) dL_law_564 dL_law_565 dL_law_568 dL_law_570 dL_law_575 dL_law_577 dL_law_580 dL_law_581 dL_law_582 dL_law_583 dL_law_585 dL_law_586 dL_law_587 dL_law_592
set_option maxHeartbeats 4000000 in
set_option maxRecDepth 100000 in
theorem law_6 (E : EN p s m c cL_law 9 args RL g (F0k s.heap.size)) (hl9 : l.stackTraces = false) (hc : LCn s.heap.size om ao d9 ad) (hX : va_X bs L xs s s.heap) (hbl : bs < s.heap.size) (hjL : 4 * j + 4 ≤ L) (hL : L ≤ 2048) (hn : LAt p l e s m args below meth c Q g bs x om ao d9 ad 28 (j + 1)) : LAt p l e s m args below meth c Q g bs x om ao d9 ad 595 j := by
  intro A nb nl nr ne pr t M f f2 H locs ls hA hPD hPM hao hd9 hRR hS hl
  have hx := E.1
  have hb := E.2.1
  have hj : j < 512 := by omega
  have hN := hRR.2.1
  have h8 := hRR.b8
  have hl : lv_has ls 9 (LBs j bs x om ao d9) := hl

  have hpl := hRR.pl
  have hne : ne < 99 := by have := hRR.nePh; omega
  subst hA
  refine lv_aload_n hx hb dL_law_595 rfl (lv_at hl 2 rfl) ?_
  refine l_arg hx hb hX hbl hS hl 1 0 rfl rfl (i := 1) rfl (by omega) hL dL_law_596 dL_law_597 dL_law_599 dL_law_600 dL_law_601 ?_
  refine l_arg hx hb hX hbl hS hl 1 0 rfl rfl (i := 2) rfl (by omega) hL dL_law_602 dL_law_603 dL_law_605 dL_law_606 dL_law_607 ?_
  refine l_arg hx hb hX hbl hS hl 1 0 rfl rfl (i := 3) rfl (by omega) hL dL_law_608 dL_law_609 dL_law_611 dL_law_612 dL_law_613 ?_
  refine lv_aload_n hx hb dL_law_614 rfl (lv_at hl 4 rfl) ?_
  refine l_wrap E hS (w_call l g (FBk s.heap.size om ad d9) A nb nl nr ne pr t hl9 ao (by exact FB_ao hc) (xs (4 * j + 1)) (xs (4 * j + 2)) (xs (4 * j + 3)) hpl hne) okw_call lk_L_134 hPD hao hd9 hPM rfl hl ⟨rfl, rfl⟩ rfl ⟨room_cj (k := 8) hj (by omega), room_sj (k := 490) hj (by omega)⟩ dL_law_615 rfl (fun v H locs hv hS hPM hd9 => ?_)
  obtain ⟨rfl, hok, hbad⟩ := hv
  obtain ⟨o1, o2, o3⟩ := op_call hRR (xs (4 * j + 1)) (xs (4 * j + 2)) (xs (4 * j + 3))
  have hmid : ∃ (A2 : Nat → Nat → Nat) (nb2 nl2 nr2 ne2 : Nat) (pr2 : List Nat) (t2 : TT) (f9 : Nat → Int64), A2 0 0 = A 0 0 ∧ PD g (fW (FBk s.heap.size om ad d9) ao) A2 nb2 nl2 nr2 ne2 pr2 t2 H ∧ va_at g.1 vwCl (aL g ao f9) H ∧ RR nb2 nl2 nr2 ne2 pr2 t2 (mCall M nb nr nl (xs (4 * j + 1)) (xs (4 * j + 2)) (xs (4 * j + 3))).2 ∧ ((kcCall nb nr pr t (xs (4 * j + 1)) (xs (4 * j + 2)) (xs (4 * j + 3))) = 0 → f9 0 = ((mCall M nb nr nl (xs (4 * j + 1)) (xs (4 * j + 2)) (xs (4 * j + 3))).1).toInt64) := by
    by_cases hk : (kcCall nb nr pr t (xs (4 * j + 1)) (xs (4 * j + 2)) (xs (4 * j + 3))) = 0
    · obtain ⟨⟨A2, hA2, h1⟩, f9, h2, h3⟩ := hok hk
      obtain ⟨o4, o5⟩ := o2 hk
      exact ⟨A2, _, _, _, _, _, _, f9, hA2, h1, h3, o5, fun _ => by rw [h2, o4]⟩
    · obtain ⟨h1, f9, h2⟩ := hbad hk
      exact ⟨A, _, _, _, _, _, _, f9, rfl, h1, h2, o3 hk, fun z => absurd z hk⟩
  obtain ⟨A2, nb2, nl2, nr2, ne2, pr2, t2, f9, hA2, hPD2, hao2, hRR2, hans⟩ := hmid
  have hk10 : (kcCall nb nr pr t (xs (4 * j + 1)) (xs (4 * j + 2)) (xs (4 * j + 3))) < 10 := by unfold kcCall; (repeat' split) <;> decide
  have o1 : (mCall M nb nr nl (xs (4 * j + 1)) (xs (4 * j + 2)) (xs (4 * j + 3))).2 0 0 = nI (kcCall nb nr pr t (xs (4 * j + 1)) (xs (4 * j + 2)) (xs (4 * j + 3))) := o1
  obtain ⟨kc, hkc⟩ : ∃ kc, kc = (kcCall nb nr pr t (xs (4 * j + 1)) (xs (4 * j + 2)) (xs (4 * j + 3))) := ⟨_, rfl⟩
  have hv6 : (kcCall nb nr pr t (xs (4 * j + 1)) (xs (4 * j + 2)) (xs (4 * j + 3))) = kc := hkc.symm
  refine lv_istore (lv' := (6, .int (nI (kcCall nb nr pr t (xs (4 * j + 1)) (xs (4 * j + 2)) (xs (4 * j + 3))))) :: LBs j bs (A 0 0) om ao d9) hx hb dL_law_618 hl (by decide) rfl (fun ls hl => ?_)
  rw [← hkc] at hl o1 hans hk10
  refine lv_aload_n hx hb dL_law_620 rfl (lv_at hl 4 rfl) ?_
  refine l_arg hx hb hX hbl hS hl 2 1 rfl rfl (i := 1) rfl (by omega) hL dL_law_621 dL_law_622 dL_law_624 dL_law_625 dL_law_626 ?_
  refine l_arg hx hb hX hbl hS hl 2 1 rfl rfl (i := 2) rfl (by omega) hL dL_law_627 dL_law_628 dL_law_630 dL_law_631 dL_law_632 ?_
  refine l_arg hx hb hX hbl hS hl 2 1 rfl rfl (i := 3) rfl (by omega) hL dL_law_633 dL_law_634 dL_law_636 dL_law_637 dL_law_638 ?_
  refine l_model E hc hS (c_X5_call l g (FMd om ad) om ad M nb nr nl (xs (4 * j + 1)) (xs (4 * j + 2)) (xs (4 * j + 3)) hN.1 h8.1 hN.2.1 h8.2.2 hN.2.2.1 h8.2.1) ok_X5_call lk_L_136 rfl hPM rfl hl ⟨rfl, rfl⟩ rfl ⟨room_cj (k := 8) hj (by omega), room_sj (k := 490) hj (by omega)⟩ dL_law_639 rfl hPD2 hao2 hd9 (fun v H locs hv hS hPD2 hao2 hd9 => ?_)
  obtain ⟨rfl, hPM⟩ := hv
  refine lv_istore (lv' := (7, .int (mCall M nb nr nl (xs (4 * j + 1)) (xs (4 * j + 2)) (xs (4 * j + 3))).1) :: (6, .int (nI kc)) :: LBs j bs (A 0 0) om ao d9) hx hb dL_law_642 hl (by decide) rfl (fun ls hl => ?_)
  exact l_tail E hc lk_L_113 hn (kc := kc) (ans := (mCall M nb nr nl (xs (4 * j + 1)) (xs (4 * j + 2)) (xs (4 * j + 3))).1) o1 hk10 hans hA2 hPD2 hPM hao2 hd9 hRR2 hS hl hj (by omega) (by omega) 644 (by decide) dL_law_644 dL_law_645 dL_law_648 dL_law_650 dL_law_655 dL_law_657 dL_law_660 dL_law_661 dL_law_662 dL_law_663 dL_law_665 dL_law_666 dL_law_667 dL_law_672
set_option maxHeartbeats 4000000 in
set_option maxRecDepth 100000 in
theorem law_7 (E : EN p s m c cL_law 9 args RL g (F0k s.heap.size)) (hl9 : l.stackTraces = false) (hc : LCn s.heap.size om ao d9 ad) (hX : va_X bs L xs s s.heap) (hbl : bs < s.heap.size) (hjL : 4 * j + 4 ≤ L) (hL : L ≤ 2048) (hn : LAt p l e s m args below meth c Q g bs x om ao d9 ad 28 (j + 1)) : LAt p l e s m args below meth c Q g bs x om ao d9 ad 675 j := by
  intro A nb nl nr ne pr t M f f2 H locs ls hA hPD hPM hao hd9 hRR hS hl
  have hx := E.1
  have hb := E.2.1
  have hj : j < 512 := by omega
  have hN := hRR.2.1
  have h8 := hRR.b8
  have hl : lv_has ls 9 (LBs j bs x om ao d9) := hl

  have hC13 : ∀ r, r < nr → narrow .char (.int (M 13 r)) = .int (M 13 r) := by rw [← hRR.1.r 13]; exact hPD.di.2.2.2.2.1
  subst hA
  refine lv_aload_n hx hb dL_law_675 rfl (lv_at hl 2 rfl) ?_
  refine l_arg hx hb hX hbl hS hl 1 0 rfl rfl (i := 1) rfl (by omega) hL dL_law_676 dL_law_677 dL_law_679 dL_law_680 dL_law_681 ?_
  refine lv_aload_n hx hb dL_law_682 rfl (lv_at hl 4 rfl) ?_
  refine l_wrap E hS (w_state l g (FBk s.heap.size om ad d9) A nb nl nr ne pr t hl9 ao (by exact FB_ao hc) (xs (4 * j + 1))) okw_state lk_L_137 hPD hao hd9 hPM rfl hl ⟨rfl, rfl⟩ rfl ⟨room_cj (k := 4) hj (by omega), room_sj (k := 24) hj (by omega)⟩ dL_law_683 rfl (fun v H locs hv hS hPM hd9 => ?_)
  obtain ⟨rfl, hok, hbad⟩ := hv
  obtain ⟨o1, o2, o3⟩ := op_state hRR (xs (4 * j + 1))
  have hmid : ∃ (A2 : Nat → Nat → Nat) (nb2 nl2 nr2 ne2 : Nat) (pr2 : List Nat) (t2 : TT) (f9 : Nat → Int64), A2 0 0 = A 0 0 ∧ PD g (fW (FBk s.heap.size om ad d9) ao) A2 nb2 nl2 nr2 ne2 pr2 t2 H ∧ va_at g.1 vwCl (aL g ao f9) H ∧ RR nb2 nl2 nr2 ne2 pr2 t2 (mNobody M nr (xs (4 * j + 1))) ∧ ((if dcN (xs (4 * j + 1)) nr = 0 then 0 else 1) = 0 → f9 0 = ((mStateOf M nr (xs (4 * j + 1)))).toInt64) := by
    by_cases hk : (if dcN (xs (4 * j + 1)) nr = 0 then 0 else 1) = 0
    · obtain ⟨h1, f9, h2, h3⟩ := hok hk
      obtain ⟨o4, o5⟩ := o2 hk
      exact ⟨A, _, _, _, _, _, _, f9, rfl, h1, h3, o5, fun _ => by rw [h2, o4]⟩
    · obtain ⟨h1, f9, h2⟩ := hbad hk
      exact ⟨A, _, _, _, _, _, _, f9, rfl, h1, h2, o3 hk, fun z => absurd z hk⟩
  obtain ⟨A2, nb2, nl2, nr2, ne2, pr2, t2, f9, hA2, hPD2, hao2, hRR2, hans⟩ := hmid
  have hk10 : (if dcN (xs (4 * j + 1)) nr = 0 then 0 else 1) < 10 := by (repeat' split) <;> decide
  obtain ⟨kc, hkc⟩ : ∃ kc, kc = (if dcN (xs (4 * j + 1)) nr = 0 then 0 else 1) := ⟨_, rfl⟩
  refine lv_istore (lv' := (6, .int (nI (if dcN (xs (4 * j + 1)) nr = 0 then 0 else 1))) :: LBs j bs (A 0 0) om ao d9) hx hb dL_law_686 hl (by decide) rfl (fun ls hl => ?_)
  rw [← hkc] at hl o1 hans hk10
  refine lv_aload_n hx hb dL_law_688 rfl (lv_at hl 4 rfl) ?_
  refine l_arg hx hb hX hbl hS hl 2 1 rfl rfl (i := 1) rfl (by omega) hL dL_law_689 dL_law_690 dL_law_692 dL_law_693 dL_law_694 ?_
  refine l_model E hc hS (c_X5_state l g (FMd om ad) om ad M nr (xs (4 * j + 1)) hN.2.1 h8.2.2 hC13) ok_X5_state lk_L_139 rfl hPM rfl hl ⟨rfl, rfl⟩ rfl ⟨room_cj (k := 4) hj (by omega), room_sj (k := 24) hj (by omega)⟩ dL_law_695 rfl hPD2 hao2 hd9 (fun v H locs hv hS hPD2 hao2 hd9 => ?_)
  obtain ⟨rfl, hPM⟩ := hv
  refine lv_istore (lv' := (7, .int (mStateOf M nr (xs (4 * j + 1)))) :: (6, .int (nI kc)) :: LBs j bs (A 0 0) om ao d9) hx hb dL_law_698 hl (by decide) rfl (fun ls hl => ?_)
  exact l_tail E hc lk_L_113 hn (kc := kc) (ans := (mStateOf M nr (xs (4 * j + 1)))) o1 hk10 hans hA2 hPD2 hPM hao2 hd9 hRR2 hS hl hj (by omega) (by omega) 700 (by decide) dL_law_700 dL_law_701 dL_law_704 dL_law_706 dL_law_711 dL_law_713 dL_law_716 dL_law_717 dL_law_718 dL_law_719 dL_law_721 dL_law_722 dL_law_723 dL_law_728
set_option maxHeartbeats 4000000 in
set_option maxRecDepth 100000 in
theorem law_8 (E : EN p s m c cL_law 9 args RL g (F0k s.heap.size)) (hl9 : l.stackTraces = false) (hc : LCn s.heap.size om ao d9 ad) (hX : va_X bs L xs s s.heap) (hbl : bs < s.heap.size) (hjL : 4 * j + 4 ≤ L) (hL : L ≤ 2048) (hn : LAt p l e s m args below meth c Q g bs x om ao d9 ad 28 (j + 1)) : LAt p l e s m args below meth c Q g bs x om ao d9 ad 731 j := by
  intro A nb nl nr ne pr t M f f2 H locs ls hA hPD hPM hao hd9 hRR hS hl
  have hx := E.1
  have hb := E.2.1
  have hj : j < 512 := by omega
  have hN := hRR.2.1
  have h8 := hRR.b8
  have hl : lv_has ls 9 (LBs j bs x om ao d9) := hl

  have hW13 : ∀ r, r < nr → M 13 r = 97 → ∃ q, q < 3 ∧ M 10 r = nI q := fun r hr h => by rw [← hRR.1.r 13] at h; obtain ⟨q, q1, q2⟩ := (hRR.2.2.2.2.1 r hr).2.2.2.2.2 h; rw [hRR.1.r 10] at q2; exact ⟨q, by omega, q2⟩
  subst hA
  refine lv_aload_n hx hb dL_law_731 rfl (lv_at hl 2 rfl) ?_
  refine l_arg hx hb hX hbl hS hl 1 0 rfl rfl (i := 1) rfl (by omega) hL dL_law_732 dL_law_733 dL_law_735 dL_law_736 dL_law_737 ?_
  refine lv_aload_n hx hb dL_law_738 rfl (lv_at hl 4 rfl) ?_
  refine l_wrap E hS (w_floorOf l g (FBk s.heap.size om ad d9) A nb nl nr ne pr t hl9 ao (by exact FB_ao hc) (xs (4 * j + 1))) okw_floorOf lk_L_140 hPD hao hd9 hPM rfl hl ⟨rfl, rfl⟩ rfl ⟨room_cj (k := 4) hj (by omega), room_sj (k := 24) hj (by omega)⟩ dL_law_739 rfl (fun v H locs hv hS hPM hd9 => ?_)
  obtain ⟨rfl, hok, hbad⟩ := hv
  obtain ⟨o1, o2, o3⟩ := op_floorOf hRR (xs (4 * j + 1))
  have hmid : ∃ (A2 : Nat → Nat → Nat) (nb2 nl2 nr2 ne2 : Nat) (pr2 : List Nat) (t2 : TT) (f9 : Nat → Int64), A2 0 0 = A 0 0 ∧ PD g (fW (FBk s.heap.size om ad d9) ao) A2 nb2 nl2 nr2 ne2 pr2 t2 H ∧ va_at g.1 vwCl (aL g ao f9) H ∧ RR nb2 nl2 nr2 ne2 pr2 t2 (mNobody M nr (xs (4 * j + 1))) ∧ ((if dcN (xs (4 * j + 1)) nr = 0 then 0 else 1) = 0 → f9 0 = ((mFloorOf M nr (xs (4 * j + 1)))).toInt64) := by
    by_cases hk : (if dcN (xs (4 * j + 1)) nr = 0 then 0 else 1) = 0
    · obtain ⟨h1, f9, h2, h3⟩ := hok hk
      obtain ⟨o4, o5⟩ := o2 hk
      exact ⟨A, _, _, _, _, _, _, f9, rfl, h1, h3, o5, fun _ => by rw [h2, o4]⟩
    · obtain ⟨h1, f9, h2⟩ := hbad hk
      exact ⟨A, _, _, _, _, _, _, f9, rfl, h1, h2, o3 hk, fun z => absurd z hk⟩
  obtain ⟨A2, nb2, nl2, nr2, ne2, pr2, t2, f9, hA2, hPD2, hao2, hRR2, hans⟩ := hmid
  have hk10 : (if dcN (xs (4 * j + 1)) nr = 0 then 0 else 1) < 10 := by (repeat' split) <;> decide
  obtain ⟨kc, hkc⟩ : ∃ kc, kc = (if dcN (xs (4 * j + 1)) nr = 0 then 0 else 1) := ⟨_, rfl⟩
  refine lv_istore (lv' := (6, .int (nI (if dcN (xs (4 * j + 1)) nr = 0 then 0 else 1))) :: LBs j bs (A 0 0) om ao d9) hx hb dL_law_742 hl (by decide) rfl (fun ls hl => ?_)
  rw [← hkc] at hl o1 hans hk10
  refine lv_aload_n hx hb dL_law_744 rfl (lv_at hl 4 rfl) ?_
  refine l_arg hx hb hX hbl hS hl 2 1 rfl rfl (i := 1) rfl (by omega) hL dL_law_745 dL_law_746 dL_law_748 dL_law_749 dL_law_750 ?_
  refine l_model E hc hS (c_X5_floorOf l g (FMd om ad) om ad M nr (xs (4 * j + 1)) hN.2.1 h8.2.2 hW13) ok_X5_floorOf lk_L_142 rfl hPM rfl hl ⟨rfl, rfl⟩ rfl ⟨room_cj (k := 4) hj (by omega), room_sj (k := 24) hj (by omega)⟩ dL_law_751 rfl hPD2 hao2 hd9 (fun v H locs hv hS hPD2 hao2 hd9 => ?_)
  obtain ⟨rfl, hPM⟩ := hv
  refine lv_istore (lv' := (7, .int (mFloorOf M nr (xs (4 * j + 1)))) :: (6, .int (nI kc)) :: LBs j bs (A 0 0) om ao d9) hx hb dL_law_754 hl (by decide) rfl (fun ls hl => ?_)
  exact l_tail E hc lk_L_113 hn (kc := kc) (ans := (mFloorOf M nr (xs (4 * j + 1)))) o1 hk10 hans hA2 hPD2 hPM hao2 hd9 hRR2 hS hl hj (by omega) (by omega) 756 (by decide) dL_law_756 dL_law_757 dL_law_760 dL_law_762 dL_law_767 dL_law_769 dL_law_772 dL_law_773 dL_law_774 dL_law_775 dL_law_777 dL_law_778 dL_law_779 dL_law_784
set_option maxHeartbeats 4000000 in
set_option maxRecDepth 100000 in
theorem law_9 (E : EN p s m c cL_law 9 args RL g (F0k s.heap.size)) (hl9 : l.stackTraces = false) (hc : LCn s.heap.size om ao d9 ad) (hX : va_X bs L xs s s.heap) (hbl : bs < s.heap.size) (hjL : 4 * j + 4 ≤ L) (hL : L ≤ 2048) (hn : LAt p l e s m args below meth c Q g bs x om ao d9 ad 28 (j + 1)) : LAt p l e s m args below meth c Q g bs x om ao d9 ad 787 j := by
  intro A nb nl nr ne pr t M f f2 H locs ls hA hPD hPM hao hd9 hRR hS hl
  have hx := E.1
  have hb := E.2.1
  have hj : j < 512 := by omega
  have hN := hRR.2.1
  have h8 := hRR.b8
  have hl : lv_has ls 9 (LBs j bs x om ao d9) := hl

  subst hA
  refine lv_aload_n hx hb dL_law_787 rfl (lv_at hl 2 rfl) ?_
  refine l_arg hx hb hX hbl hS hl 1 0 rfl rfl (i := 1) rfl (by omega) hL dL_law_788 dL_law_789 dL_law_791 dL_law_792 dL_law_793 ?_
  refine lv_aload_n hx hb dL_law_794 rfl (lv_at hl 4 rfl) ?_
  refine l_wrap E hS (w_aim l g (FBk s.heap.size om ad d9) A nb nl nr ne pr t hl9 ao (by exact FB_ao hc) (xs (4 * j + 1))) okw_aim lk_L_143 hPD hao hd9 hPM rfl hl ⟨rfl, rfl⟩ rfl ⟨room_cj (k := 4) hj (by omega), room_sj (k := 24) hj (by omega)⟩ dL_law_795 rfl (fun v H locs hv hS hPM hd9 => ?_)
  obtain ⟨rfl, hok, hbad⟩ := hv
  obtain ⟨o1, o2, o3⟩ := op_aim hRR (xs (4 * j + 1))
  have hmid : ∃ (A2 : Nat → Nat → Nat) (nb2 nl2 nr2 ne2 : Nat) (pr2 : List Nat) (t2 : TT) (f9 : Nat → Int64), A2 0 0 = A 0 0 ∧ PD g (fW (FBk s.heap.size om ad d9) ao) A2 nb2 nl2 nr2 ne2 pr2 t2 H ∧ va_at g.1 vwCl (aL g ao f9) H ∧ RR nb2 nl2 nr2 ne2 pr2 t2 (mNobody M nr (xs (4 * j + 1))) ∧ ((if dcN (xs (4 * j + 1)) nr = 0 then 0 else 1) = 0 → f9 0 = ((mAim M nr (xs (4 * j + 1)))).toInt64) := by
    by_cases hk : (if dcN (xs (4 * j + 1)) nr = 0 then 0 else 1) = 0
    · obtain ⟨h1, f9, h2, h3⟩ := hok hk
      obtain ⟨o4, o5⟩ := o2 hk
      exact ⟨A, _, _, _, _, _, _, f9, rfl, h1, h3, o5, fun _ => by rw [h2, o4]⟩
    · obtain ⟨h1, f9, h2⟩ := hbad hk
      exact ⟨A, _, _, _, _, _, _, f9, rfl, h1, h2, o3 hk, fun z => absurd z hk⟩
  obtain ⟨A2, nb2, nl2, nr2, ne2, pr2, t2, f9, hA2, hPD2, hao2, hRR2, hans⟩ := hmid
  have hk10 : (if dcN (xs (4 * j + 1)) nr = 0 then 0 else 1) < 10 := by (repeat' split) <;> decide
  obtain ⟨kc, hkc⟩ : ∃ kc, kc = (if dcN (xs (4 * j + 1)) nr = 0 then 0 else 1) := ⟨_, rfl⟩
  refine lv_istore (lv' := (6, .int (nI (if dcN (xs (4 * j + 1)) nr = 0 then 0 else 1))) :: LBs j bs (A 0 0) om ao d9) hx hb dL_law_798 hl (by decide) rfl (fun ls hl => ?_)
  rw [← hkc] at hl o1 hans hk10
  refine lv_aload_n hx hb dL_law_800 rfl (lv_at hl 4 rfl) ?_
  refine l_arg hx hb hX hbl hS hl 2 1 rfl rfl (i := 1) rfl (by omega) hL dL_law_801 dL_law_802 dL_law_804 dL_law_805 dL_law_806 ?_
  refine l_model E hc hS (c_X5_aim l g (FMd om ad) om ad M nr (xs (4 * j + 1)) hN.2.1 h8.2.2) ok_X5_aim lk_L_145 rfl hPM rfl hl ⟨rfl, rfl⟩ rfl ⟨room_cj (k := 4) hj (by omega), room_sj (k := 24) hj (by omega)⟩ dL_law_807 rfl hPD2 hao2 hd9 (fun v H locs hv hS hPD2 hao2 hd9 => ?_)
  obtain ⟨rfl, hPM⟩ := hv
  refine lv_istore (lv' := (7, .int (mAim M nr (xs (4 * j + 1)))) :: (6, .int (nI kc)) :: LBs j bs (A 0 0) om ao d9) hx hb dL_law_810 hl (by decide) rfl (fun ls hl => ?_)
  exact l_tail E hc lk_L_113 hn (kc := kc) (ans := (mAim M nr (xs (4 * j + 1)))) o1 hk10 hans hA2 hPD2 hPM hao2 hd9 hRR2 hS hl hj (by omega) (by omega) 812 (by decide) dL_law_812 dL_law_813 dL_law_816 dL_law_818 dL_law_823 dL_law_825 dL_law_828 dL_law_829 dL_law_830 dL_law_831 dL_law_833 dL_law_834 dL_law_835 dL_law_840
set_option maxHeartbeats 4000000 in
set_option maxRecDepth 100000 in
theorem law_10 (E : EN p s m c cL_law 9 args RL g (F0k s.heap.size)) (hl9 : l.stackTraces = false) (hc : LCn s.heap.size om ao d9 ad) (hX : va_X bs L xs s s.heap) (hbl : bs < s.heap.size) (hjL : 4 * j + 4 ≤ L) (hL : L ≤ 2048) (hn : LAt p l e s m args below meth c Q g bs x om ao d9 ad 28 (j + 1)) : LAt p l e s m args below meth c Q g bs x om ao d9 ad 843 j := by
  intro A nb nl nr ne pr t M f f2 H locs ls hA hPD hPM hao hd9 hRR hS hl
  have hx := E.1
  have hb := E.2.1
  have hj : j < 512 := by omega
  have hN := hRR.2.1
  have h8 := hRR.b8
  have hl : lv_has ls 9 (LBs j bs x om ao d9) := hl

  subst hA
  refine lv_aload_n hx hb dL_law_843 rfl (lv_at hl 2 rfl) ?_
  refine l_arg hx hb hX hbl hS hl 1 0 rfl rfl (i := 1) rfl (by omega) hL dL_law_844 dL_law_845 dL_law_847 dL_law_848 dL_law_849 ?_
  refine lv_aload_n hx hb dL_law_850 rfl (lv_at hl 4 rfl) ?_
  refine l_wrap E hS (w_liftOf l g (FBk s.heap.size om ad d9) A nb nl nr ne pr t hl9 ao (by exact FB_ao hc) (xs (4 * j + 1))) okw_liftOf lk_L_146 hPD hao hd9 hPM rfl hl ⟨rfl, rfl⟩ rfl ⟨room_cj (k := 4) hj (by omega), room_sj (k := 24) hj (by omega)⟩ dL_law_851 rfl (fun v H locs hv hS hPM hd9 => ?_)
  obtain ⟨rfl, hok, hbad⟩ := hv
  obtain ⟨o1, o2, o3⟩ := op_liftOf hRR (xs (4 * j + 1))
  have hmid : ∃ (A2 : Nat → Nat → Nat) (nb2 nl2 nr2 ne2 : Nat) (pr2 : List Nat) (t2 : TT) (f9 : Nat → Int64), A2 0 0 = A 0 0 ∧ PD g (fW (FBk s.heap.size om ad d9) ao) A2 nb2 nl2 nr2 ne2 pr2 t2 H ∧ va_at g.1 vwCl (aL g ao f9) H ∧ RR nb2 nl2 nr2 ne2 pr2 t2 (mLiftOf M nr (xs (4 * j + 1))).2 ∧ ((if dcN (xs (4 * j + 1)) nr = 0 then (if t 10 (xs (4 * j + 1)).toNatClampNeg < 0 then 2 else 0) else 1) = 0 → f9 0 = ((mLiftOf M nr (xs (4 * j + 1))).1).toInt64) := by
    by_cases hk : (if dcN (xs (4 * j + 1)) nr = 0 then (if t 10 (xs (4 * j + 1)).toNatClampNeg < 0 then 2 else 0) else 1) = 0
    · obtain ⟨h1, f9, h2, h3⟩ := hok hk
      obtain ⟨o4, o5⟩ := o2 hk
      exact ⟨A, _, _, _, _, _, _, f9, rfl, h1, h3, o5, fun _ => by rw [h2, o4]⟩
    · obtain ⟨h1, f9, h2⟩ := hbad hk
      exact ⟨A, _, _, _, _, _, _, f9, rfl, h1, h2, o3 hk, fun z => absurd z hk⟩
  obtain ⟨A2, nb2, nl2, nr2, ne2, pr2, t2, f9, hA2, hPD2, hao2, hRR2, hans⟩ := hmid
  have hk10 : (if dcN (xs (4 * j + 1)) nr = 0 then (if t 10 (xs (4 * j + 1)).toNatClampNeg < 0 then 2 else 0) else 1) < 10 := by (repeat' split) <;> decide
  obtain ⟨kc, hkc⟩ : ∃ kc, kc = (if dcN (xs (4 * j + 1)) nr = 0 then (if t 10 (xs (4 * j + 1)).toNatClampNeg < 0 then 2 else 0) else 1) := ⟨_, rfl⟩
  refine lv_istore (lv' := (6, .int (nI (if dcN (xs (4 * j + 1)) nr = 0 then (if t 10 (xs (4 * j + 1)).toNatClampNeg < 0 then 2 else 0) else 1))) :: LBs j bs (A 0 0) om ao d9) hx hb dL_law_854 hl (by decide) rfl (fun ls hl => ?_)
  rw [← hkc] at hl o1 hans hk10
  refine lv_aload_n hx hb dL_law_856 rfl (lv_at hl 4 rfl) ?_
  refine l_arg hx hb hX hbl hS hl 2 1 rfl rfl (i := 1) rfl (by omega) hL dL_law_857 dL_law_858 dL_law_860 dL_law_861 dL_law_862 ?_
  refine l_model E hc hS (c_X5_liftOf l g (FMd om ad) om ad M nr (xs (4 * j + 1)) hN.2.1 h8.2.2) ok_X5_liftOf lk_L_148 rfl hPM rfl hl ⟨rfl, rfl⟩ rfl ⟨room_cj (k := 4) hj (by omega), room_sj (k := 24) hj (by omega)⟩ dL_law_863 rfl hPD2 hao2 hd9 (fun v H locs hv hS hPD2 hao2 hd9 => ?_)
  obtain ⟨rfl, hPM⟩ := hv
  refine lv_istore (lv' := (7, .int (mLiftOf M nr (xs (4 * j + 1))).1) :: (6, .int (nI kc)) :: LBs j bs (A 0 0) om ao d9) hx hb dL_law_866 hl (by decide) rfl (fun ls hl => ?_)
  exact l_tail E hc lk_L_113 hn (kc := kc) (ans := (mLiftOf M nr (xs (4 * j + 1))).1) o1 hk10 hans hA2 hPD2 hPM hao2 hd9 hRR2 hS hl hj (by omega) (by omega) 868 (by decide) dL_law_868 dL_law_869 dL_law_872 dL_law_874 dL_law_879 dL_law_881 dL_law_884 dL_law_885 dL_law_886 dL_law_887 dL_law_889 dL_law_890 dL_law_891 dL_law_896
set_option maxHeartbeats 4000000 in
set_option maxRecDepth 100000 in
theorem law_11 (E : EN p s m c cL_law 9 args RL g (F0k s.heap.size)) (hl9 : l.stackTraces = false) (hc : LCn s.heap.size om ao d9 ad) (hX : va_X bs L xs s s.heap) (hbl : bs < s.heap.size) (hjL : 4 * j + 4 ≤ L) (hL : L ≤ 2048) (hn : LAt p l e s m args below meth c Q g bs x om ao d9 ad 28 (j + 1)) : LAt p l e s m args below meth c Q g bs x om ao d9 ad 899 j := by
  intro A nb nl nr ne pr t M f f2 H locs ls hA hPD hPM hao hd9 hRR hS hl
  have hx := E.1
  have hb := E.2.1
  have hj : j < 512 := by omega
  have hN := hRR.2.1
  have h8 := hRR.b8
  have hl : lv_has ls 9 (LBs j bs x om ao d9) := hl

  subst hA
  refine lv_aload_n hx hb dL_law_899 rfl (lv_at hl 2 rfl) ?_
  refine l_arg hx hb hX hbl hS hl 1 0 rfl rfl (i := 1) rfl (by omega) hL dL_law_900 dL_law_901 dL_law_903 dL_law_904 dL_law_905 ?_
  refine lv_aload_n hx hb dL_law_906 rfl (lv_at hl 4 rfl) ?_
  refine l_wrap E hS (w_waited l g (FBk s.heap.size om ad d9) A nb nl nr ne pr t hl9 ao (by exact FB_ao hc) (xs (4 * j + 1))) okw_waited lk_L_149 hPD hao hd9 hPM rfl hl ⟨rfl, rfl⟩ rfl ⟨room_cj (k := 4) hj (by omega), room_sj (k := 24) hj (by omega)⟩ dL_law_907 rfl (fun v H locs hv hS hPM hd9 => ?_)
  obtain ⟨rfl, hok, hbad⟩ := hv
  obtain ⟨o1, o2, o3⟩ := op_waited hRR (xs (4 * j + 1))
  have hmid : ∃ (A2 : Nat → Nat → Nat) (nb2 nl2 nr2 ne2 : Nat) (pr2 : List Nat) (t2 : TT) (f9 : Nat → Int64), A2 0 0 = A 0 0 ∧ PD g (fW (FBk s.heap.size om ad d9) ao) A2 nb2 nl2 nr2 ne2 pr2 t2 H ∧ va_at g.1 vwCl (aL g ao f9) H ∧ RR nb2 nl2 nr2 ne2 pr2 t2 (mNobody M nr (xs (4 * j + 1))) ∧ ((if dcN (xs (4 * j + 1)) nr = 0 then 0 else 1) = 0 → f9 0 = ((mWaited M nr (xs (4 * j + 1)))).toInt64) := by
    by_cases hk : (if dcN (xs (4 * j + 1)) nr = 0 then 0 else 1) = 0
    · obtain ⟨h1, f9, h2, h3⟩ := hok hk
      obtain ⟨o4, o5⟩ := o2 hk
      exact ⟨A, _, _, _, _, _, _, f9, rfl, h1, h3, o5, fun _ => by rw [h2, o4]⟩
    · obtain ⟨h1, f9, h2⟩ := hbad hk
      exact ⟨A, _, _, _, _, _, _, f9, rfl, h1, h2, o3 hk, fun z => absurd z hk⟩
  obtain ⟨A2, nb2, nl2, nr2, ne2, pr2, t2, f9, hA2, hPD2, hao2, hRR2, hans⟩ := hmid
  have hk10 : (if dcN (xs (4 * j + 1)) nr = 0 then 0 else 1) < 10 := by (repeat' split) <;> decide
  obtain ⟨kc, hkc⟩ : ∃ kc, kc = (if dcN (xs (4 * j + 1)) nr = 0 then 0 else 1) := ⟨_, rfl⟩
  refine lv_istore (lv' := (6, .int (nI (if dcN (xs (4 * j + 1)) nr = 0 then 0 else 1))) :: LBs j bs (A 0 0) om ao d9) hx hb dL_law_910 hl (by decide) rfl (fun ls hl => ?_)
  rw [← hkc] at hl o1 hans hk10
  refine lv_aload_n hx hb dL_law_912 rfl (lv_at hl 4 rfl) ?_
  refine l_arg hx hb hX hbl hS hl 2 1 rfl rfl (i := 1) rfl (by omega) hL dL_law_913 dL_law_914 dL_law_916 dL_law_917 dL_law_918 ?_
  refine l_model E hc hS (c_X5_waited l g (FMd om ad) om ad M nr (xs (4 * j + 1)) hN.2.1 h8.2.2) ok_X5_waited lk_L_151 rfl hPM rfl hl ⟨rfl, rfl⟩ rfl ⟨room_cj (k := 4) hj (by omega), room_sj (k := 24) hj (by omega)⟩ dL_law_919 rfl hPD2 hao2 hd9 (fun v H locs hv hS hPD2 hao2 hd9 => ?_)
  obtain ⟨rfl, hPM⟩ := hv
  refine lv_istore (lv' := (7, .int (mWaited M nr (xs (4 * j + 1)))) :: (6, .int (nI kc)) :: LBs j bs (A 0 0) om ao d9) hx hb dL_law_922 hl (by decide) rfl (fun ls hl => ?_)
  exact l_tail E hc lk_L_113 hn (kc := kc) (ans := (mWaited M nr (xs (4 * j + 1)))) o1 hk10 hans hA2 hPD2 hPM hao2 hd9 hRR2 hS hl hj (by omega) (by omega) 924 (by decide) dL_law_924 dL_law_925 dL_law_928 dL_law_930 dL_law_935 dL_law_937 dL_law_940 dL_law_941 dL_law_942 dL_law_943 dL_law_945 dL_law_946 dL_law_947 dL_law_952
set_option maxHeartbeats 4000000 in
set_option maxRecDepth 100000 in
theorem law_12 (E : EN p s m c cL_law 9 args RL g (F0k s.heap.size)) (hl9 : l.stackTraces = false) (hc : LCn s.heap.size om ao d9 ad) (hX : va_X bs L xs s s.heap) (hbl : bs < s.heap.size) (hjL : 4 * j + 4 ≤ L) (hL : L ≤ 2048) (hn : LAt p l e s m args below meth c Q g bs x om ao d9 ad 28 (j + 1)) : LAt p l e s m args below meth c Q g bs x om ao d9 ad 955 j := by
  intro A nb nl nr ne pr t M f f2 H locs ls hA hPD hPM hao hd9 hRR hS hl
  have hx := E.1
  have hb := E.2.1
  have hj : j < 512 := by omega
  have hN := hRR.2.1
  have h8 := hRR.b8
  have hl : lv_has ls 9 (LBs j bs x om ao d9) := hl

  subst hA
  refine lv_aload_n hx hb dL_law_955 rfl (lv_at hl 2 rfl) ?_
  refine l_arg hx hb hX hbl hS hl 1 0 rfl rfl (i := 1) rfl (by omega) hL dL_law_956 dL_law_957 dL_law_959 dL_law_960 dL_law_961 ?_
  refine lv_aload_n hx hb dL_law_962 rfl (lv_at hl 4 rfl) ?_
  refine l_wrap E hS (w_waitedByLog l g (FBk s.heap.size om ad d9) A nb nl nr ne pr t hl9 ao (by exact FB_ao hc) (xs (4 * j + 1))) okw_waitedByLog lk_L_152 hPD hao hd9 hPM rfl hl ⟨rfl, rfl⟩ rfl ⟨room_cj (k := 4) hj (by omega), room_sj (k := 24) hj (by omega)⟩ dL_law_963 rfl (fun v H locs hv hS hPM hd9 => ?_)
  obtain ⟨rfl, hok, hbad⟩ := hv
  obtain ⟨o1, o2, o3⟩ := op_waitedByLog hRR (xs (4 * j + 1))
  have hmid : ∃ (A2 : Nat → Nat → Nat) (nb2 nl2 nr2 ne2 : Nat) (pr2 : List Nat) (t2 : TT) (f9 : Nat → Int64), A2 0 0 = A 0 0 ∧ PD g (fW (FBk s.heap.size om ad d9) ao) A2 nb2 nl2 nr2 ne2 pr2 t2 H ∧ va_at g.1 vwCl (aL g ao f9) H ∧ RR nb2 nl2 nr2 ne2 pr2 t2 (mNobody M nr (xs (4 * j + 1))) ∧ ((if dcN (xs (4 * j + 1)) nr = 0 then 0 else 1) = 0 → f9 0 = ((mWaited M nr (xs (4 * j + 1)))).toInt64) := by
    by_cases hk : (if dcN (xs (4 * j + 1)) nr = 0 then 0 else 1) = 0
    · obtain ⟨h1, f9, h2, h3⟩ := hok hk
      obtain ⟨o4, o5⟩ := o2 hk
      exact ⟨A, _, _, _, _, _, _, f9, rfl, h1, h3, o5, fun _ => by rw [h2, o4]⟩
    · obtain ⟨h1, f9, h2⟩ := hbad hk
      exact ⟨A, _, _, _, _, _, _, f9, rfl, h1, h2, o3 hk, fun z => absurd z hk⟩
  obtain ⟨A2, nb2, nl2, nr2, ne2, pr2, t2, f9, hA2, hPD2, hao2, hRR2, hans⟩ := hmid
  have hk10 : (if dcN (xs (4 * j + 1)) nr = 0 then 0 else 1) < 10 := by (repeat' split) <;> decide
  obtain ⟨kc, hkc⟩ : ∃ kc, kc = (if dcN (xs (4 * j + 1)) nr = 0 then 0 else 1) := ⟨_, rfl⟩
  refine lv_istore (lv' := (6, .int (nI (if dcN (xs (4 * j + 1)) nr = 0 then 0 else 1))) :: LBs j bs (A 0 0) om ao d9) hx hb dL_law_966 hl (by decide) rfl (fun ls hl => ?_)
  rw [← hkc] at hl o1 hans hk10
  refine lv_aload_n hx hb dL_law_968 rfl (lv_at hl 4 rfl) ?_
  refine l_arg hx hb hX hbl hS hl 2 1 rfl rfl (i := 1) rfl (by omega) hL dL_law_969 dL_law_970 dL_law_972 dL_law_973 dL_law_974 ?_
  refine l_model E hc hS (c_X5_waitedByLog l g (FMd om ad) om ad M nr (xs (4 * j + 1)) hN.2.1 h8.2.2) ok_X5_waitedByLog lk_L_154 rfl hPM rfl hl ⟨rfl, rfl⟩ rfl ⟨room_cj (k := 4) hj (by omega), room_sj (k := 24) hj (by omega)⟩ dL_law_975 rfl hPD2 hao2 hd9 (fun v H locs hv hS hPD2 hao2 hd9 => ?_)
  obtain ⟨rfl, hPM⟩ := hv
  refine lv_istore (lv' := (7, .int (mWaited M nr (xs (4 * j + 1)))) :: (6, .int (nI kc)) :: LBs j bs (A 0 0) om ao d9) hx hb dL_law_978 hl (by decide) rfl (fun ls hl => ?_)
  exact l_tail E hc lk_L_113 hn (kc := kc) (ans := (mWaited M nr (xs (4 * j + 1)))) o1 hk10 hans hA2 hPD2 hPM hao2 hd9 hRR2 hS hl hj (by omega) (by omega) 980 (by decide) dL_law_980 dL_law_981 dL_law_984 dL_law_986 dL_law_991 dL_law_993 dL_law_996 dL_law_997 dL_law_998 dL_law_999 dL_law_1001 dL_law_1002 dL_law_1003 dL_law_1008
set_option maxHeartbeats 4000000 in
set_option maxRecDepth 100000 in
theorem law_13 (E : EN p s m c cL_law 9 args RL g (F0k s.heap.size)) (hl9 : l.stackTraces = false) (hc : LCn s.heap.size om ao d9 ad) (hX : va_X bs L xs s s.heap) (hbl : bs < s.heap.size) (hjL : 4 * j + 4 ≤ L) (hL : L ≤ 2048) (hn : LAt p l e s m args below meth c Q g bs x om ao d9 ad 28 (j + 1)) : LAt p l e s m args below meth c Q g bs x om ao d9 ad 1011 j := by
  intro A nb nl nr ne pr t M f f2 H locs ls hA hPD hPM hao hd9 hRR hS hl
  have hx := E.1
  have hb := E.2.1
  have hj : j < 512 := by omega
  have hN := hRR.2.1
  have h8 := hRR.b8
  have hl : lv_has ls 9 (LBs j bs x om ao d9) := hl

  subst hA
  refine lv_aload_n hx hb dL_law_1011 rfl (lv_at hl 2 rfl) ?_
  refine l_desk E hS (c_X4_entries l g (fW (FBk s.heap.size om ad d9) ao) A nb nl nr ne pr t) ok_X4_entries lk_L_155 rfl hPD hao hd9 hPM hl ⟨rfl, rfl⟩ rfl ⟨room_cj (k := 0) hj (by decide), room_sj (k := 0) hj (by decide)⟩ dL_law_1012 (fun v H locs hv hS hPM hao hd9 => ?_)
  obtain ⟨rfl, hPD⟩ := hv
  refine lv_aload_n hx hb dL_law_1015 rfl (lv_at hl 3 rfl) ?_
  refine l_model E hc hS (c_X5_entries l g (FMd om ad) om ad M) ok_X5_entries lk_L_158 rfl hPM rfl hl ⟨rfl, rfl⟩ rfl ⟨room_cj (k := 0) hj (by decide), room_sj (k := 0) hj (by decide)⟩ dL_law_1016 rfl hPD hao hd9 (fun v H locs hv hS hPD hao hd9 => ?_)
  obtain ⟨rfl, hPM⟩ := hv
  exact lv_icmp_eq (tgt := 1718) hx hb dL_law_1019 (by decide) (fun _ => l_end hx hb hn rfl hPD hPM hao hd9 (hRR.m0 0) hS hl (by omega) (by omega)) (fun h => absurd (hN.2.2.2.1.symm) h)
end LC9
