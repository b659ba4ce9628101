/-! ChairFrontModel.readLine -/
def rm_X9_readLine : Room := { frames := 4, cells := 0, slots := 0, locals := 87 }
theorem ci_X9_readLine : CI yX9_readLine RX9 cX9_readLine 7 none 0 := ⟨q_1040, q_43, q_65, q_1041, by decide +kernel⟩
def w_X9_readLine_J342 (Q : ST → Prop) (s0 : ST) : Prop := ((¬ (s0 63 46) = 4 → (w_X9_need s0 0 (fun s7 => Q s7))) ∧ ((s0 63 46) = 4 → (w_X9_need s0 1 (fun s8 => Q s8))))
set_option maxRecDepth 100000 in
set_option maxHeartbeats 4000000 in
theorem t_X9_readLine_J342 {p : Program} {l : Launch} {e : Env} {s : State} {m : MethodId} {args : Array Value} {below : List Frame} {meth : Method} {c : Code} {X : XT} (E : Ev p rm_X9_readLine s m args meth c X (xA X) 7 0 0 cX9_readLine RX9) (hr : meth.sig.returnType = none) {Q : ST → Prop} (s0 : ST) (h : w_X9_readLine_J342 Q s0) : G p l e rm_X9_readLine s m args below meth c X (xA X) 7 0 0 (MQ below (va_Qv Q (Bw X) (xA X)) args s 0 0 (xA X)) s0 342 [some (.ref (xa X 63)), none, none, none, none, none, none] [] := by
  refine r_aload_n (pc := 342) E dX9_readLine_342 rfl rfl ?_
  refine r_aload_n (pc := 343) E dX9_readLine_343 rfl rfl ?_
  refine r_get (pc := 344) (j := 46) E ok_63 kc_9 rfl q_822 (svI rfl) dX9_readLine_344 ?_
  refine r_iconst (pc := 347) (v := 4) E dX9_readLine_347 (by decide) ?_
  refine r_icmp_ne (pc := 348) (tgt := 355) E dX9_readLine_348 (by decide) (fun c13 => ?_) (fun c13 => ?_)
  · have h := h.1 c13
    refine r_iconst (pc := 355) (v := 0) E dX9_readLine_355 (by decide) ?_
    refine afterV (pc := 356) E (fun H locs ls hP hS hl => runV (As := [.int 0]) (rest := []) E (c_X9_need X _ _ _  h) ok_63 kc_9.1 ci_X9_need q_1053 rfl rfl rfl rfl dX9_readLine_356 hP hS hl) (fun s7 h => ?_)
    exact r_vret (pc := 359) E hr dX9_readLine_359 h
  · have h := h.2 c13
    refine r_iconst (pc := 351) (v := 1) E dX9_readLine_351 (by decide) ?_
    refine r_goto (pc := 352) (tgt := 356) E dX9_readLine_352 (by decide) ?_
    refine afterV (pc := 356) E (fun H locs ls hP hS hl => runV (As := [.int 1]) (rest := []) E (c_X9_need X _ _ _  h) ok_63 kc_9.1 ci_X9_need q_1053 rfl rfl rfl rfl dX9_readLine_356 hP hS hl) (fun s8 h => ?_)
    exact r_vret (pc := 359) E hr dX9_readLine_359 h

def w_X9_readLine_J245 (Q : ST → Prop) (s0 : ST) (v3 : Int32) (v5 : Int32) (t1 : Int32) : Prop := w_X9_need s0 t1 (fun s5 => w_X9_numberIn s5 0 100 (fun r6 s6 => ((¬ (s6 63 49) = 0 → (((¬ (s6 63 49) = 0 → (w_X9_readLine_J342 Q s6)) ∧ ((s6 63 49) = 0 → (vp_in (s6 63 38) 5 ∧ (∀ s9 : ST, s9 = up s6 84 (s6 63 38).toNatClampNeg v5 → (vp_in (s9 63 38) 5 ∧ (∀ s10 : ST, s10 = up s9 85 (s9 63 38).toNatClampNeg r6 → (∀ s11 : ST, s11 = up s10 63 38 ((s10 63 38) + 1) → (w_X9_readLine_J342 Q s11)))))))))) ∧ ((s6 63 49) = 0 → (((v3 = 0 → (((¬ (s6 63 49) = 0 → (w_X9_readLine_J342 Q s6)) ∧ ((s6 63 49) = 0 → (vp_in (s6 63 38) 5 ∧ (∀ s12 : ST, s12 = up s6 84 (s6 63 38).toNatClampNeg v5 → (vp_in (s12 63 38) 5 ∧ (∀ s13 : ST, s13 = up s12 85 (s12 63 38).toNatClampNeg r6 → (∀ s14 : ST, s14 = up s13 63 38 ((s13 63 38) + 1) → (w_X9_readLine_J342 Q s14)))))))))) ∧ (¬ (v3 = 0) → (vp_in (s6 63 35) 5 ∧ (∀ s15 : ST, s15 = up s6 82 (s6 63 35).toNatClampNeg v5 → (vp_in (s15 63 35) 5 ∧ (∀ s16 : ST, s16 = up s15 83 (s15 63 35).toNatClampNeg r6 → (∀ s17 : ST, s17 = up s16 63 35 ((s16 63 35) + 1) → (w_X9_readLine_J342 Q s17)))))))))))))
set_option maxRecDepth 100000 in
set_option maxHeartbeats 4000000 in
theorem t_X9_readLine_J245 {p : Program} {l : Launch} {e : Env} {s : State} {m : MethodId} {args : Array Value} {below : List Frame} {meth : Method} {c : Code} {X : XT} (E : Ev p rm_X9_readLine s m args meth c X (xA X) 7 0 0 cX9_readLine RX9) (hr : meth.sig.returnType = none) {Q : ST → Prop} (s0 : ST) (v3 : Int32) (v5 : Int32) (t1 : Int32) (h : w_X9_readLine_J245 Q s0 v3 v5 t1) : G p l e rm_X9_readLine s m args below meth c X (xA X) 7 0 0 (MQ below (va_Qv Q (Bw X) (xA X)) args s 0 0 (xA X)) s0 245 [some (.ref (xa X 63)), none, none, some (.int v3), none, some (.int v5), none] [.int t1, .ref (xa X 63)] := by
  refine afterV (pc := 245) E (fun H locs ls hP hS hl => runV (As := [.int t1]) (rest := []) E (c_X9_need X _ _ _  h) ok_63 kc_9.1 ci_X9_need q_1053 rfl rfl rfl rfl dX9_readLine_245 hP hS hl) (fun s5 h => ?_)
  refine r_aload_n (pc := 248) E dX9_readLine_248 rfl rfl ?_
  refine r_iconst (pc := 249) (v := 0) E dX9_readLine_249 (by decide) ?_
  refine r_bipush (pc := 250) (v := 100) E dX9_readLine_250 (by decide) ?_
  refine afterI (pc := 252) E (fun H locs ls hP hS hl => runV (As := [.int 0, .int 100]) (rest := []) E (c_X9_numberIn X _ _ _ _  h) ok_63 kc_9.1 ci_X9_numberIn q_1061 rfl rfl rfl rfl dX9_readLine_252 hP hS hl) (fun r6 s6 h => ?_)
  refine r_istore (pc := 255) (lv' := [some (.ref (xa X 63)), none, none, some (.int v3), none, some (.int v5), some (.int r6)]) E dX9_readLine_255 rfl rfl rfl ?_
  refine r_aload_n (pc := 257) E dX9_readLine_257 rfl rfl ?_
  refine r_get (pc := 258) (j := 49) E ok_63 kc_9 rfl q_825 (svI rfl) dX9_readLine_258 ?_
  refine r_if_ne (pc := 261) (tgt := 303) E dX9_readLine_261 (by decide) (fun c11 => ?_) (fun c11 => ?_)
  · have h := h.1 c11
    refine r_aload_n (pc := 303) E dX9_readLine_303 rfl rfl ?_
    refine r_get (pc := 304) (j := 49) E ok_63 kc_9 rfl q_825 (svI rfl) dX9_readLine_304 ?_
    refine r_if_ne (pc := 307) (tgt := 342) E dX9_readLine_307 (by decide) (fun c12 => ?_) (fun c12 => ?_)
    · have h := h.1 c12
      exact r_forget (le_s (le_n (le_n (le_n (le_n (le_n (le_n le_0))))))) (t_X9_readLine_J342 E hr _  h)
    · have h := h.2 c12
      refine r_aload_n (pc := 310) E dX9_readLine_310 rfl rfl ?_
      refine r_get (pc := 311) (j := 39) (v := .ref (xa X 84)) E ok_63 kc_9 rfl q_815 rfl dX9_readLine_311 ?_
      refine r_aload_n (pc := 314) E dX9_readLine_314 rfl rfl ?_
      refine r_get (pc := 315) (j := 38) E ok_63 kc_9 rfl q_814 (svI rfl) dX9_readLine_315 ?_
      refine r_iload (pc := 318) E dX9_readLine_318 rfl ?_
      refine r_iast (pc := 320) (n := 5) E ok_84 rfl h.1 dX9_readLine_320 (fun s9 es9 => ?_)
      have h := h.2 s9 es9
      refine r_aload_n (pc := 321) E dX9_readLine_321 rfl rfl ?_
      refine r_get (pc := 322) (j := 40) (v := .ref (xa X 85)) E ok_63 kc_9 rfl q_816 rfl dX9_readLine_322 ?_
      refine r_aload_n (pc := 325) E dX9_readLine_325 rfl rfl ?_
      refine r_get (pc := 326) (j := 38) E ok_63 kc_9 rfl q_814 (svI rfl) dX9_readLine_326 ?_
      refine r_iload (pc := 329) E dX9_readLine_329 rfl ?_
      refine r_iast (pc := 331) (n := 5) E ok_85 rfl h.1 dX9_readLine_331 (fun s10 es10 => ?_)
      have h := h.2 s10 es10
      refine r_aload_n (pc := 332) E dX9_readLine_332 rfl rfl ?_
      refine r_dup (pc := 333) E dX9_readLine_333 rfl ?_
      refine r_get (pc := 334) (j := 38) E ok_63 kc_9 rfl q_814 (svI rfl) dX9_readLine_334 ?_
      refine r_iconst (pc := 337) (v := 1) E dX9_readLine_337 (by decide) ?_
      refine r_iadd (pc := 338) E dX9_readLine_338 ?_
      refine r_put (pc := 339) (j := 38) E ok_63 kc_9 rfl q_814 rfl rfl rfl dX9_readLine_339 (fun s11 es11 => ?_)
      have h := h s11 es11
      exact r_forget (le_s (le_n (le_n (le_n (le_n (le_n (le_n le_0))))))) (t_X9_readLine_J342 E hr _  h)
  · have h := h.2 c11
    refine r_iload_n (pc := 264) E dX9_readLine_264 rfl rfl ?_
    refine r_if_eq (pc := 265) (tgt := 303) E dX9_readLine_265 (by decide) (fun c14 => ?_) (fun c14 => ?_)
    · have h := h.1 c14
      refine r_aload_n (pc := 303) E dX9_readLine_303 rfl rfl ?_
      refine r_get (pc := 304) (j := 49) E ok_63 kc_9 rfl q_825 (svI rfl) dX9_readLine_304 ?_
      refine r_if_ne (pc := 307) (tgt := 342) E dX9_readLine_307 (by decide) (fun c15 => ?_) (fun c15 => ?_)
      · have h := h.1 c15
        exact r_forget (le_s (le_n (le_n (le_n (le_n (le_n (le_n le_0))))))) (t_X9_readLine_J342 E hr _  h)
      · have h := h.2 c15
        refine r_aload_n (pc := 310) E dX9_readLine_310 rfl rfl ?_
        refine r_get (pc := 311) (j := 39) (v := .ref (xa X 84)) E ok_63 kc_9 rfl q_815 rfl dX9_readLine_311 ?_
        refine r_aload_n (pc := 314) E dX9_readLine_314 rfl rfl ?_
        refine r_get (pc := 315) (j := 38) E ok_63 kc_9 rfl q_814 (svI rfl) dX9_readLine_315 ?_
        refine r_iload (pc := 318) E dX9_readLine_318 rfl ?_
        refine r_iast (pc := 320) (n := 5) E ok_84 rfl h.1 dX9_readLine_320 (fun s12 es12 => ?_)
        have h := h.2 s12 es12
        refine r_aload_n (pc := 321) E dX9_readLine_321 rfl rfl ?_
        refine r_get (pc := 322) (j := 40) (v := .ref (xa X 85)) E ok_63 kc_9 rfl q_816 rfl dX9_readLine_322 ?_
        refine r_aload_n (pc := 325) E dX9_readLine_325 rfl rfl ?_
        refine r_get (pc := 326) (j := 38) E ok_63 kc_9 rfl q_814 (svI rfl) dX9_readLine_326 ?_
        refine r_iload (pc := 329) E dX9_readLine_329 rfl ?_
        refine r_iast (pc := 331) (n := 5) E ok_85 rfl h.1 dX9_readLine_331 (fun s13 es13 => ?_)
        have h := h.2 s13 es13
        refine r_aload_n (pc := 332) E dX9_readLine_332 rfl rfl ?_
        refine r_dup (pc := 333) E dX9_readLine_333 rfl ?_
        refine r_get (pc := 334) (j := 38) E ok_63 kc_9 rfl q_814 (svI rfl) dX9_readLine_334 ?_
        refine r_iconst (pc := 337) (v := 1) E dX9_readLine_337 (by decide) ?_
        refine r_iadd (pc := 338) E dX9_readLine_338 ?_
        refine r_put (pc := 339) (j := 38) E ok_63 kc_9 rfl q_814 rfl rfl rfl dX9_readLine_339 (fun s14 es14 => ?_)
        have h := h s14 es14
        exact r_forget (le_s (le_n (le_n (le_n (le_n (le_n (le_n le_0))))))) (t_X9_readLine_J342 E hr _  h)
    · have h := h.2 c14
      refine r_aload_n (pc := 268) E dX9_readLine_268 rfl rfl ?_
      refine r_get (pc := 269) (j := 36) (v := .ref (xa X 82)) E ok_63 kc_9 rfl q_812 rfl dX9_readLine_269 ?_
      refine r_aload_n (pc := 272) E dX9_readLine_272 rfl rfl ?_
      refine r_get (pc := 273) (j := 35) E ok_63 kc_9 rfl q_811 (svI rfl) dX9_readLine_273 ?_
      refine r_iload (pc := 276) E dX9_readLine_276 rfl ?_
      refine r_iast (pc := 278) (n := 5) E ok_82 rfl h.1 dX9_readLine_278 (fun s15 es15 => ?_)
      have h := h.2 s15 es15
      refine r_aload_n (pc := 279) E dX9_readLine_279 rfl rfl ?_
      refine r_get (pc := 280) (j := 37) (v := .ref (xa X 83)) E ok_63 kc_9 rfl q_813 rfl dX9_readLine_280 ?_
      refine r_aload_n (pc := 283) E dX9_readLine_283 rfl rfl ?_
      refine r_get (pc := 284) (j := 35) E ok_63 kc_9 rfl q_811 (svI rfl) dX9_readLine_284 ?_
      refine r_iload (pc := 287) E dX9_readLine_287 rfl ?_
      refine r_iast (pc := 289) (n := 5) E ok_83 rfl h.1 dX9_readLine_289 (fun s16 es16 => ?_)
      have h := h.2 s16 es16
      refine r_aload_n (pc := 290) E dX9_readLine_290 rfl rfl ?_
      refine r_dup (pc := 291) E dX9_readLine_291 rfl ?_
      refine r_get (pc := 292) (j := 35) E ok_63 kc_9 rfl q_811 (svI rfl) dX9_readLine_292 ?_
      refine r_iconst (pc := 295) (v := 1) E dX9_readLine_295 (by decide) ?_
      refine r_iadd (pc := 296) E dX9_readLine_296 ?_
      refine r_put (pc := 297) (j := 35) E ok_63 kc_9 rfl q_811 rfl rfl rfl dX9_readLine_297 (fun s17 es17 => ?_)
      have h := h s17 es17
      refine r_goto (pc := 300) (tgt := 342) E dX9_readLine_300 (by decide) ?_
      exact r_forget (le_s (le_n (le_n (le_n (le_n (le_n (le_n le_0))))))) (t_X9_readLine_J342 E hr _  h)

def w_X9_readLine_J223 (Q : ST → Prop) (s0 : ST) (v3 : Int32) (t1 : Int32) (t2 : Int32) : Prop := w_X9_numberIn s0 t1 t2 (fun r3 s3 => w_X9_word s3 (fun r4 s4 => ((¬ (lg_cmp r4 1885434484) = 0 → (w_X9_readLine_J245 Q s4 v3 r3 0)) ∧ ((lg_cmp r4 1885434484) = 0 → (w_X9_readLine_J245 Q s4 v3 r3 1)))))
set_option maxRecDepth 100000 in
set_option maxHeartbeats 4000000 in
theorem t_X9_readLine_J223 {p : Program} {l : Launch} {e : Env} {s : State} {m : MethodId} {args : Array Value} {below : List Frame} {meth : Method} {c : Code} {X : XT} (E : Ev p rm_X9_readLine s m args meth c X (xA X) 7 0 0 cX9_readLine RX9) (hr : meth.sig.returnType = none) {Q : ST → Prop} (s0 : ST) (v3 : Int32) (t1 : Int32) (t2 : Int32) (h : w_X9_readLine_J223 Q s0 v3 t1 t2) : G p l e rm_X9_readLine s m args below meth c X (xA X) 7 0 0 (MQ below (va_Qv Q (Bw X) (xA X)) args s 0 0 (xA X)) s0 223 [some (.ref (xa X 63)), none, none, some (.int v3), none, none, none] [.int t2, .int t1, .ref (xa X 63)] := by
  refine afterI (pc := 223) E (fun H locs ls hP hS hl => runV (As := [.int t1, .int t2]) (rest := []) E (c_X9_numberIn X _ _ _ _  h) ok_63 kc_9.1 ci_X9_numberIn q_1061 rfl rfl rfl rfl dX9_readLine_223 hP hS hl) (fun r3 s3 h => ?_)
  refine r_istore (pc := 226) (lv' := [some (.ref (xa X 63)), none, none, some (.int v3), none, some (.int r3), none]) E dX9_readLine_226 rfl rfl rfl ?_
  refine r_aload_n (pc := 228) E dX9_readLine_228 rfl rfl ?_
  refine r_aload_n (pc := 229) E dX9_readLine_229 rfl rfl ?_
  refine afterL (pc := 230) E (fun H locs ls hP hS hl => runV (As := []) (rest := [.ref (xa X 63)]) E (c_X9_word X _  _  h) ok_63 kc_9.1 ci_X9_word q_1042 rfl rfl rfl rfl dX9_readLine_230 hP hS hl) (fun r4 s4 h => ?_)
  refine r_ldc2 (pc := 233) (v := 1885434484) E q_1065 dX9_readLine_233 ?_
  refine r_lcmp (pc := 236) E dX9_readLine_236 ?_
  refine r_if_ne (pc := 237) (tgt := 244) E dX9_readLine_237 (by decide) (fun c10 => ?_) (fun c10 => ?_)
  · have h := h.1 c10
    refine r_iconst (pc := 244) (v := 0) E dX9_readLine_244 (by decide) ?_
    exact r_forget (le_s (le_n (le_n (le_s (le_n (le_s (le_n le_0))))))) (t_X9_readLine_J245 E hr _ _ _ _ h)
  · have h := h.2 c10
    refine r_iconst (pc := 240) (v := 1) E dX9_readLine_240 (by decide) ?_
    refine r_goto (pc := 241) (tgt := 245) E dX9_readLine_241 (by decide) ?_
    exact r_forget (le_s (le_n (le_n (le_s (le_n (le_s (le_n le_0))))))) (t_X9_readLine_J245 E hr _ _ _ _ h)

def w_X9_readLine_J155 (Q : ST → Prop) (s0 : ST) (t1 : Int32) : Prop := w_X9_need s0 t1 (fun s20 => w_X9_readLine_J342 Q s20)
set_option maxRecDepth 100000 in
set_option maxHeartbeats 4000000 in
theorem t_X9_readLine_J155 {p : Program} {l : Launch} {e : Env} {s : State} {m : MethodId} {args : Array Value} {below : List Frame} {meth : Method} {c : Code} {X : XT} (E : Ev p rm_X9_readLine s m args meth c X (xA X) 7 0 0 cX9_readLine RX9) (hr : meth.sig.returnType = none) {Q : ST → Prop} (s0 : ST) (t1 : Int32) (h : w_X9_readLine_J155 Q s0 t1) : G p l e rm_X9_readLine s m args below meth c X (xA X) 7 0 0 (MQ below (va_Qv Q (Bw X) (xA X)) args s 0 0 (xA X)) s0 155 [some (.ref (xa X 63)), none, none, none, none, none, none] [.int t1, .ref (xa X 63)] := by
  refine afterV (pc := 155) E (fun H locs ls hP hS hl => runV (As := [.int t1]) (rest := []) E (c_X9_need X _ _ _  h) ok_63 kc_9.1 ci_X9_need q_1053 rfl rfl rfl rfl dX9_readLine_155 hP hS hl) (fun s20 h => ?_)
  refine r_goto (pc := 158) (tgt := 342) E dX9_readLine_158 (by decide) ?_
  exact r_forget (le_s (le_n (le_n (le_n (le_n (le_n (le_n le_0))))))) (t_X9_readLine_J342 E hr _  h)

def w_X9_readLine_J72 (Q : ST → Prop) (s0 : ST) (v1 : Int64) (t1 : Int32) : Prop := w_X9_need s0 t1 (fun s2 => (((s2 63 49) ≤ 0 → (((¬ (lg_cmp v1 1752132708) = 0 → (((¬ (lg_cmp v1 1918986606) = 0 → ((((0 : Int32) = 0 → (((¬ (s2 63 38) = 0 → (vp_in ((s2 63 38) - 1) 5 ∧ (∀ x1 : Int32, x1 = ((s2 84 ((s2 63 38) - 1).toNatClampNeg) + 1) → ((((0 : Int32) = 0 → (w_X9_readLine_J223 Q s2 0 x1 99999)) ∧ (¬ ((0 : Int32) = 0) → (w_X9_readLine_J223 Q s2 0 x1 60))))))) ∧ ((s2 63 38) = 0 → ((((0 : Int32) = 0 → (w_X9_readLine_J223 Q s2 0 0 99999)) ∧ (¬ ((0 : Int32) = 0) → (w_X9_readLine_J223 Q s2 0 0 60)))))))) ∧ (¬ ((0 : Int32) = 0) → ((((0 : Int32) = 0 → (w_X9_readLine_J223 Q s2 0 1 99999)) ∧ (¬ ((0 : Int32) = 0) → (w_X9_readLine_J223 Q s2 0 1 60)))))))) ∧ ((lg_cmp v1 1918986606) = 0 → ((((1 : Int32) = 0 → (((¬ (s2 63 38) = 0 → (vp_in ((s2 63 38) - 1) 5 ∧ (∀ x2 : Int32, x2 = ((s2 84 ((s2 63 38) - 1).toNatClampNeg) + 1) → ((((1 : Int32) = 0 → (w_X9_readLine_J223 Q s2 1 x2 99999)) ∧ (¬ ((1 : Int32) = 0) → (w_X9_readLine_J223 Q s2 1 x2 60))))))) ∧ ((s2 63 38) = 0 → ((((1 : Int32) = 0 → (w_X9_readLine_J223 Q s2 1 0 99999)) ∧ (¬ ((1 : Int32) = 0) → (w_X9_readLine_J223 Q s2 1 0 60)))))))) ∧ (¬ ((1 : Int32) = 0) → ((((1 : Int32) = 0 → (w_X9_readLine_J223 Q s2 1 1 99999)) ∧ (¬ ((1 : Int32) = 0) → (w_X9_readLine_J223 Q s2 1 1 60))))))))))) ∧ ((lg_cmp v1 1752132708) = 0 → (w_X9_word s2 (fun r9 s18 => ((¬ (lg_cmp r9 2054123109) = 0 → (((¬ (lg_cmp r9 6385273) = 0 → (∀ s19 : ST, s19 = up s18 63 34 0 → ((((lg_cmp r9 2054123109) = 0 → (w_X9_readLine_J155 Q s19 1)) ∧ (¬ ((lg_cmp r9 2054123109) = 0) → ((((lg_cmp r9 6385273) = 0 → (w_X9_readLine_J155 Q s19 1)) ∧ (¬ ((lg_cmp r9 6385273) = 0) → (((¬ (lg_cmp r9 482854658917) = 0 → (w_X9_readLine_J155 Q s19 0)) ∧ ((lg_cmp r9 482854658917) = 0 → (w_X9_readLine_J155 Q s19 1)))))))))))) ∧ ((lg_cmp r9 6385273) = 0 → (∀ s21 : ST, s21 = up s18 63 34 2 → ((((lg_cmp r9 2054123109) = 0 → (w_X9_readLine_J155 Q s21 1)) ∧ (¬ ((lg_cmp r9 2054123109) = 0) → ((((lg_cmp r9 6385273) = 0 → (w_X9_readLine_J155 Q s21 1)) ∧ (¬ ((lg_cmp r9 6385273) = 0) → (((¬ (lg_cmp r9 482854658917) = 0 → (w_X9_readLine_J155 Q s21 0)) ∧ ((lg_cmp r9 482854658917) = 0 → (w_X9_readLine_J155 Q s21 1))))))))))))))) ∧ ((lg_cmp r9 2054123109) = 0 → (∀ s22 : ST, s22 = up s18 63 34 1 → ((((lg_cmp r9 2054123109) = 0 → (w_X9_readLine_J155 Q s22 1)) ∧ (¬ ((lg_cmp r9 2054123109) = 0) → ((((lg_cmp r9 6385273) = 0 → (w_X9_readLine_J155 Q s22 1)) ∧ (¬ ((lg_cmp r9 6385273) = 0) → (((¬ (lg_cmp r9 482854658917) = 0 → (w_X9_readLine_J155 Q s22 0)) ∧ ((lg_cmp r9 482854658917) = 0 → (w_X9_readLine_J155 Q s22 1))))))))))))))))))) ∧ (¬ ((s2 63 49) ≤ 0) → (Q s2))))
set_option maxRecDepth 100000 in
set_option maxHeartbeats 4000000 in
theorem t_X9_readLine_J72 {p : Program} {l : Launch} {e : Env} {s : State} {m : MethodId} {args : Array Value} {below : List Frame} {meth : Method} {c : Code} {X : XT} (E : Ev p rm_X9_readLine s m args meth c X (xA X) 7 0 0 cX9_readLine RX9) (hr : meth.sig.returnType = none) {Q : ST → Prop} (s0 : ST) (v1 : Int64) (t1 : Int32) (h : w_X9_readLine_J72 Q s0 v1 t1) : G p l e rm_X9_readLine s m args below meth c X (xA X) 7 0 0 (MQ below (va_Qv Q (Bw X) (xA X)) args s 0 0 (xA X)) s0 72 [some (.ref (xa X 63)), some (.long v1), none, none, none, none, none] [.int t1, .ref (xa X 63)] := by
  refine afterV (pc := 72) E (fun H locs ls hP hS hl => runV (As := [.int t1]) (rest := []) E (c_X9_need X _ _ _  h) ok_63 kc_9.1 ci_X9_need q_1053 rfl rfl rfl rfl dX9_readLine_72 hP hS hl) (fun s2 h => ?_)
  refine r_aload_n (pc := 75) E dX9_readLine_75 rfl rfl ?_
  refine r_get (pc := 76) (j := 49) E ok_63 kc_9 rfl q_825 (svI rfl) dX9_readLine_76 ?_
  refine r_if_le (pc := 79) (tgt := 83) E dX9_readLine_79 (by decide) (fun c4 => ?_) (fun c4 => ?_)
  · have h := h.1 c4
    refine r_lload_n (pc := 83) E dX9_readLine_83 rfl rfl ?_
    refine r_ldc2 (pc := 84) (v := 1752132708) E q_1052 dX9_readLine_84 ?_
    refine r_lcmp (pc := 87) E dX9_readLine_87 ?_
    refine r_if_ne (pc := 88) (tgt := 161) E dX9_readLine_88 (by decide) (fun c5 => ?_) (fun c5 => ?_)
    · have h := h.1 c5
      refine r_lload_n (pc := 161) E dX9_readLine_161 rfl rfl ?_
      refine r_ldc2 (pc := 162) (v := 1918986606) E q_1046 dX9_readLine_162 ?_
      refine r_lcmp (pc := 165) E dX9_readLine_165 ?_
      refine r_if_ne (pc := 166) (tgt := 173) E dX9_readLine_166 (by decide) (fun c6 => ?_) (fun c6 => ?_)
      · have h := h.1 c6
        refine r_iconst (pc := 173) (v := 0) E dX9_readLine_173 (by decide) ?_
        refine r_istore_n (pc := 174) (lv' := [some (.ref (xa X 63)), some (.long v1), none, some (.int 0), none, none, none]) E dX9_readLine_174 rfl rfl rfl rfl ?_
        refine r_iload_n (pc := 175) E dX9_readLine_175 rfl rfl ?_
        refine r_if_eq (pc := 176) (tgt := 183) E dX9_readLine_176 (by decide) (fun c7 => ?_) (fun c7 => ?_)
        · have h := h.1 c7
          refine r_aload_n (pc := 183) E dX9_readLine_183 rfl rfl ?_
          refine r_get (pc := 184) (j := 38) E ok_63 kc_9 rfl q_814 (svI rfl) dX9_readLine_184 ?_
          refine r_if_ne (pc := 187) (tgt := 194) E dX9_readLine_187 (by decide) (fun c8 => ?_) (fun c8 => ?_)
          · have h := h.1 c8
            refine r_aload_n (pc := 194) E dX9_readLine_194 rfl rfl ?_
            refine r_get (pc := 195) (j := 39) (v := .ref (xa X 84)) E ok_63 kc_9 rfl q_815 rfl dX9_readLine_195 ?_
            refine r_aload_n (pc := 198) E dX9_readLine_198 rfl rfl ?_
            refine r_get (pc := 199) (j := 38) E ok_63 kc_9 rfl q_814 (svI rfl) dX9_readLine_199 ?_
            refine r_iconst (pc := 202) (v := 1) E dX9_readLine_202 (by decide) ?_
            refine r_isub (pc := 203) E dX9_readLine_203 ?_
            refine r_iald (pc := 204) (n := 5) E ok_84 rfl h.1 dX9_readLine_204 ?_
            have h := h.2
            refine r_iconst (pc := 205) (v := 1) E dX9_readLine_205 (by decide) ?_
            refine r_iadd (pc := 206) E dX9_readLine_206 ?_
            refine r_topi (fun x1 ex1 => ?_)
            have h := h x1 ex1
            refine r_istore (pc := 207) (lv' := [some (.ref (xa X 63)), some (.long v1), none, some (.int 0), some (.int x1), none, none]) E dX9_readLine_207 rfl rfl rfl ?_
            refine r_aload_n (pc := 209) E dX9_readLine_209 rfl rfl ?_
            refine r_iload (pc := 210) E dX9_readLine_210 rfl ?_
            refine r_iload_n (pc := 212) E dX9_readLine_212 rfl rfl ?_
            refine r_if_eq (pc := 213) (tgt := 221) E dX9_readLine_213 (by decide) (fun c9 => ?_) (fun c9 => ?_)
            · have h := h.1 c9
              refine r_ldc (pc := 221) (v := 99999) E q_1060 dX9_readLine_221 ?_
              exact r_forget (le_s (le_n (le_n (le_s (le_n (le_n (le_n le_0))))))) (t_X9_readLine_J223 E hr _ _ _ _ h)
            · have h := h.2 c9
              refine r_bipush (pc := 216) (v := 60) E dX9_readLine_216 (by decide) ?_
              refine r_goto (pc := 218) (tgt := 223) E dX9_readLine_218 (by decide) ?_
              exact r_forget (le_s (le_n (le_n (le_s (le_n (le_n (le_n le_0))))))) (t_X9_readLine_J223 E hr _ _ _ _ h)
          · have h := h.2 c8
            refine r_iconst (pc := 190) (v := 0) E dX9_readLine_190 (by decide) ?_
            refine r_goto (pc := 191) (tgt := 207) E dX9_readLine_191 (by decide) ?_
            refine r_istore (pc := 207) (lv' := [some (.ref (xa X 63)), some (.long v1), none, some (.int 0), some (.int 0), none, none]) E dX9_readLine_207 rfl rfl rfl ?_
            refine r_aload_n (pc := 209) E dX9_readLine_209 rfl rfl ?_
            refine r_iload (pc := 210) E dX9_readLine_210 rfl ?_
            refine r_iload_n (pc := 212) E dX9_readLine_212 rfl rfl ?_
            refine r_if_eq (pc := 213) (tgt := 221) E dX9_readLine_213 (by decide) (fun c16 => ?_) (fun c16 => ?_)
            · have h := h.1 c16
              refine r_ldc (pc := 221) (v := 99999) E q_1060 dX9_readLine_221 ?_
              exact r_forget (le_s (le_n (le_n (le_s (le_n (le_n (le_n le_0))))))) (t_X9_readLine_J223 E hr _ _ _ _ h)
            · have h := h.2 c16
              refine r_bipush (pc := 216) (v := 60) E dX9_readLine_216 (by decide) ?_
              refine r_goto (pc := 218) (tgt := 223) E dX9_readLine_218 (by decide) ?_
              exact r_forget (le_s (le_n (le_n (le_s (le_n (le_n (le_n le_0))))))) (t_X9_readLine_J223 E hr _ _ _ _ h)
        · have h := h.2 c7
          refine r_iconst (pc := 179) (v := 1) E dX9_readLine_179 (by decide) ?_
          refine r_goto (pc := 180) (tgt := 207) E dX9_readLine_180 (by decide) ?_
          refine r_istore (pc := 207) (lv' := [some (.ref (xa X 63)), some (.long v1), none, some (.int 0), some (.int 1), none, none]) E dX9_readLine_207 rfl rfl rfl ?_
          refine r_aload_n (pc := 209) E dX9_readLine_209 rfl rfl ?_
          refine r_iload (pc := 210) E dX9_readLine_210 rfl ?_
          refine r_iload_n (pc := 212) E dX9_readLine_212 rfl rfl ?_
          refine r_if_eq (pc := 213) (tgt := 221) E dX9_readLine_213 (by decide) (fun c17 => ?_) (fun c17 => ?_)
          · have h := h.1 c17
            refine r_ldc (pc := 221) (v := 99999) E q_1060 dX9_readLine_221 ?_
            exact r_forget (le_s (le_n (le_n (le_s (le_n (le_n (le_n le_0))))))) (t_X9_readLine_J223 E hr _ _ _ _ h)
          · have h := h.2 c17
            refine r_bipush (pc := 216) (v := 60) E dX9_readLine_216 (by decide) ?_
            refine r_goto (pc := 218) (tgt := 223) E dX9_readLine_218 (by decide) ?_
            exact r_forget (le_s (le_n (le_n (le_s (le_n (le_n (le_n le_0))))))) (t_X9_readLine_J223 E hr _ _ _ _ h)
      · have h := h.2 c6
        refine r_iconst (pc := 169) (v := 1) E dX9_readLine_169 (by decide) ?_
        refine r_goto (pc := 170) (tgt := 174) E dX9_readLine_170 (by decide) ?_
        refine r_istore_n (pc := 174) (lv' := [some (.ref (xa X 63)), some (.long v1), none, some (.int 1), none, none, none]) E dX9_readLine_174 rfl rfl rfl rfl ?_
        refine r_iload_n (pc := 175) E dX9_readLine_175 rfl rfl ?_
        refine r_if_eq (pc := 176) (tgt := 183) E dX9_readLine_176 (by decide) (fun c18 => ?_) (fun c18 => ?_)
        · have h := h.1 c18
          refine r_aload_n (pc := 183) E dX9_readLine_183 rfl rfl ?_
          refine r_get (pc := 184) (j := 38) E ok_63 kc_9 rfl q_814 (svI rfl) dX9_readLine_184 ?_
          refine r_if_ne (pc := 187) (tgt := 194) E dX9_readLine_187 (by decide) (fun c19 => ?_) (fun c19 => ?_)
          · have h := h.1 c19
            refine r_aload_n (pc := 194) E dX9_readLine_194 rfl rfl ?_
            refine r_get (pc := 195) (j := 39) (v := .ref (xa X 84)) E ok_63 kc_9 rfl q_815 rfl dX9_readLine_195 ?_
            refine r_aload_n (pc := 198) E dX9_readLine_198 rfl rfl ?_
            refine r_get (pc := 199) (j := 38) E ok_63 kc_9 rfl q_814 (svI rfl) dX9_readLine_199 ?_
            refine r_iconst (pc := 202) (v := 1) E dX9_readLine_202 (by decide) ?_
            refine r_isub (pc := 203) E dX9_readLine_203 ?_
            refine r_iald (pc := 204) (n := 5) E ok_84 rfl h.1 dX9_readLine_204 ?_
            have h := h.2
            refine r_iconst (pc := 205) (v := 1) E dX9_readLine_205 (by decide) ?_
            refine r_iadd (pc := 206) E dX9_readLine_206 ?_
            refine r_topi (fun x2 ex2 => ?_)
            have h := h x2 ex2
            refine r_istore (pc := 207) (lv' := [some (.ref (xa X 63)), some (.long v1), none, some (.int 1), some (.int x2), none, none]) E dX9_readLine_207 rfl rfl rfl ?_
            refine r_aload_n (pc := 209) E dX9_readLine_209 rfl rfl ?_
            refine r_iload (pc := 210) E dX9_readLine_210 rfl ?_
            refine r_iload_n (pc := 212) E dX9_readLine_212 rfl rfl ?_
            refine r_if_eq (pc := 213) (tgt := 221) E dX9_readLine_213 (by decide) (fun c20 => ?_) (fun c20 => ?_)
            · have h := h.1 c20
              refine r_ldc (pc := 221) (v := 99999) E q_1060 dX9_readLine_221 ?_
              exact r_forget (le_s (le_n (le_n (le_s (le_n (le_n (le_n le_0))))))) (t_X9_readLine_J223 E hr _ _ _ _ h)
            · have h := h.2 c20
              refine r_bipush (pc := 216) (v := 60) E dX9_readLine_216 (by decide) ?_
              refine r_goto (pc := 218) (tgt := 223) E dX9_readLine_218 (by decide) ?_
              exact r_forget (le_s (le_n (le_n (le_s (le_n (le_n (le_n le_0))))))) (t_X9_readLine_J223 E hr _ _ _ _ h)
          · have h := h.2 c19
            refine r_iconst (pc := 190) (v := 0) E dX9_readLine_190 (by decide) ?_
            refine r_goto (pc := 191) (tgt := 207) E dX9_readLine_191 (by decide) ?_
            refine r_istore (pc := 207) (lv' := [some (.ref (xa X 63)), some (.long v1), none, some (.int 1), some (.int 0), none, none]) E dX9_readLine_207 rfl rfl rfl ?_
            refine r_aload_n (pc := 209) E dX9_readLine_209 rfl rfl ?_
            refine r_iload (pc := 210) E dX9_readLine_210 rfl ?_
            refine r_iload_n (pc := 212) E dX9_readLine_212 rfl rfl ?_
            refine r_if_eq (pc := 213) (tgt := 221) E dX9_readLine_213 (by decide) (fun c21 => ?_) (fun c21 => ?_)
            · have h := h.1 c21
              refine r_ldc (pc := 221) (v := 99999) E q_1060 dX9_readLine_221 ?_
              exact r_forget (le_s (le_n (le_n (le_s (le_n (le_n (le_n le_0))))))) (t_X9_readLine_J223 E hr _ _ _ _ h)
            · have h := h.2 c21
              refine r_bipush (pc := 216) (v := 60) E dX9_readLine_216 (by decide) ?_
              refine r_goto (pc := 218) (tgt := 223) E dX9_readLine_218 (by decide) ?_
              exact r_forget (le_s (le_n (le_n (le_s (le_n (le_n (le_n le_0))))))) (t_X9_readLine_J223 E hr _ _ _ _ h)
        · have h := h.2 c18
          refine r_iconst (pc := 179) (v := 1) E dX9_readLine_179 (by decide) ?_
          refine r_goto (pc := 180) (tgt := 207) E dX9_readLine_180 (by decide) ?_
          refine r_istore (pc := 207) (lv' := [some (.ref (xa X 63)), some (.long v1), none, some (.int 1), some (.int 1), none, none]) E dX9_readLine_207 rfl rfl rfl ?_
          refine r_aload_n (pc := 209) E dX9_readLine_209 rfl rfl ?_
          refine r_iload (pc := 210) E dX9_readLine_210 rfl ?_
          refine r_iload_n (pc := 212) E dX9_readLine_212 rfl rfl ?_
          refine r_if_eq (pc := 213) (tgt := 221) E dX9_readLine_213 (by decide) (fun c22 => ?_) (fun c22 => ?_)
          · have h := h.1 c22
            refine r_ldc (pc := 221) (v := 99999) E q_1060 dX9_readLine_221 ?_
            exact r_forget (le_s (le_n (le_n (le_s (le_n (le_n (le_n le_0))))))) (t_X9_readLine_J223 E hr _ _ _ _ h)
          · have h := h.2 c22
            refine r_bipush (pc := 216) (v := 60) E dX9_readLine_216 (by decide) ?_
            refine r_goto (pc := 218) (tgt := 223) E dX9_readLine_218 (by decide) ?_
            exact r_forget (le_s (le_n (le_n (le_s (le_n (le_n (le_n le_0))))))) (t_X9_readLine_J223 E hr _ _ _ _ h)
    · have h := h.2 c5
      refine r_aload_n (pc := 91) E dX9_readLine_91 rfl rfl ?_
      refine afterL (pc := 92) E (fun H locs ls hP hS hl => runV (As := []) (rest := []) E (c_X9_word X _  _  h) ok_63 kc_9.1 ci_X9_word q_1042 rfl rfl rfl rfl dX9_readLine_92 hP hS hl) (fun r9 s18 h => ?_)
      refine r_lstore_n (pc := 95) (lv' := [some (.ref (xa X 63)), some (.long v1), none, some (.long r9), none, none, none]) E dX9_readLine_95 rfl rfl rfl rfl ?_
      refine r_aload_n (pc := 96) E dX9_readLine_96 rfl rfl ?_
      refine r_lload_n (pc := 97) E dX9_readLine_97 rfl rfl ?_
      refine r_ldc2 (pc := 98) (v := 2054123109) E q_1057 dX9_readLine_98 ?_
      refine r_lcmp (pc := 101) E dX9_readLine_101 ?_
      refine r_if_ne (pc := 102) (tgt := 109) E dX9_readLine_102 (by decide) (fun c23 => ?_) (fun c23 => ?_)
      · have h := h.1 c23
        refine r_lload_n (pc := 109) E dX9_readLine_109 rfl rfl ?_
        refine r_ldc2 (pc := 110) (v := 6385273) E q_1058 dX9_readLine_110 ?_
        refine r_lcmp (pc := 113) E dX9_readLine_113 ?_
        refine r_if_ne (pc := 114) (tgt := 121) E dX9_readLine_114 (by decide) (fun c24 => ?_) (fun c24 => ?_)
        · have h := h.1 c24
          refine r_iconst (pc := 121) (v := 0) E dX9_readLine_121 (by decide) ?_
          refine r_put (pc := 122) (j := 34) E ok_63 kc_9 rfl q_810 rfl rfl rfl dX9_readLine_122 (fun s19 es19 => ?_)
          have h := h s19 es19
          refine r_aload_n (pc := 125) E dX9_readLine_125 rfl rfl ?_
          refine r_lload_n (pc := 126) E dX9_readLine_126 rfl rfl ?_
          refine r_ldc2 (pc := 127) (v := 2054123109) E q_1057 dX9_readLine_127 ?_
          refine r_lcmp (pc := 130) E dX9_readLine_130 ?_
          refine r_if_eq (pc := 131) (tgt := 150) E dX9_readLine_131 (by decide) (fun c25 => ?_) (fun c25 => ?_)
          · have h := h.1 c25
            refine r_iconst (pc := 150) (v := 1) E dX9_readLine_150 (by decide) ?_
            refine r_goto (pc := 151) (tgt := 155) E dX9_readLine_151 (by decide) ?_
            exact r_forget (le_s (le_n (le_n (le_n (le_n (le_n (le_n le_0))))))) (t_X9_readLine_J155 E hr _ _ h)
          · have h := h.2 c25
            refine r_lload_n (pc := 134) E dX9_readLine_134 rfl rfl ?_
            refine r_ldc2 (pc := 135) (v := 6385273) E q_1058 dX9_readLine_135 ?_
            refine r_lcmp (pc := 138) E dX9_readLine_138 ?_
            refine r_if_eq (pc := 139) (tgt := 150) E dX9_readLine_139 (by decide) (fun c26 => ?_) (fun c26 => ?_)
            · have h := h.1 c26
              refine r_iconst (pc := 150) (v := 1) E dX9_readLine_150 (by decide) ?_
              refine r_goto (pc := 151) (tgt := 155) E dX9_readLine_151 (by decide) ?_
              exact r_forget (le_s (le_n (le_n (le_n (le_n (le_n (le_n le_0))))))) (t_X9_readLine_J155 E hr _ _ h)
            · have h := h.2 c26
              refine r_lload_n (pc := 142) E dX9_readLine_142 rfl rfl ?_
              refine r_ldc2 (pc := 143) (v := 482854658917) E q_1059 dX9_readLine_143 ?_
              refine r_lcmp (pc := 146) E dX9_readLine_146 ?_
              refine r_if_ne (pc := 147) (tgt := 154) E dX9_readLine_147 (by decide) (fun c27 => ?_) (fun c27 => ?_)
              · have h := h.1 c27
                refine r_iconst (pc := 154) (v := 0) E dX9_readLine_154 (by decide) ?_
                exact r_forget (le_s (le_n (le_n (le_n (le_n (le_n (le_n le_0))))))) (t_X9_readLine_J155 E hr _ _ h)
              · have h := h.2 c27
                refine r_iconst (pc := 150) (v := 1) E dX9_readLine_150 (by decide) ?_
                refine r_goto (pc := 151) (tgt := 155) E dX9_readLine_151 (by decide) ?_
                exact r_forget (le_s (le_n (le_n (le_n (le_n (le_n (le_n le_0))))))) (t_X9_readLine_J155 E hr _ _ h)
        · have h := h.2 c24
          refine r_iconst (pc := 117) (v := 2) E dX9_readLine_117 (by decide) ?_
          refine r_goto (pc := 118) (tgt := 122) E dX9_readLine_118 (by decide) ?_
          refine r_put (pc := 122) (j := 34) E ok_63 kc_9 rfl q_810 rfl rfl rfl dX9_readLine_122 (fun s21 es21 => ?_)
          have h := h s21 es21
          refine r_aload_n (pc := 125) E dX9_readLine_125 rfl rfl ?_
          refine r_lload_n (pc := 126) E dX9_readLine_126 rfl rfl ?_
          refine r_ldc2 (pc := 127) (v := 2054123109) E q_1057 dX9_readLine_127 ?_
          refine r_lcmp (pc := 130) E dX9_readLine_130 ?_
          refine r_if_eq (pc := 131) (tgt := 150) E dX9_readLine_131 (by decide) (fun c28 => ?_) (fun c28 => ?_)
          · have h := h.1 c28
            refine r_iconst (pc := 150) (v := 1) E dX9_readLine_150 (by decide) ?_
            refine r_goto (pc := 151) (tgt := 155) E dX9_readLine_151 (by decide) ?_
            exact r_forget (le_s (le_n (le_n (le_n (le_n (le_n (le_n le_0))))))) (t_X9_readLine_J155 E hr _ _ h)
          · have h := h.2 c28
            refine r_lload_n (pc := 134) E dX9_readLine_134 rfl rfl ?_
            refine r_ldc2 (pc := 135) (v := 6385273) E q_1058 dX9_readLine_135 ?_
            refine r_lcmp (pc := 138) E dX9_readLine_138 ?_
            refine r_if_eq (pc := 139) (tgt := 150) E dX9_readLine_139 (by decide) (fun c29 => ?_) (fun c29 => ?_)
            · have h := h.1 c29
              refine r_iconst (pc := 150) (v := 1) E dX9_readLine_150 (by decide) ?_
              refine r_goto (pc := 151) (tgt := 155) E dX9_readLine_151 (by decide) ?_
              exact r_forget (le_s (le_n (le_n (le_n (le_n (le_n (le_n le_0))))))) (t_X9_readLine_J155 E hr _ _ h)
            · have h := h.2 c29
              refine r_lload_n (pc := 142) E dX9_readLine_142 rfl rfl ?_
              refine r_ldc2 (pc := 143) (v := 482854658917) E q_1059 dX9_readLine_143 ?_
              refine r_lcmp (pc := 146) E dX9_readLine_146 ?_
              refine r_if_ne (pc := 147) (tgt := 154) E dX9_readLine_147 (by decide) (fun c30 => ?_) (fun c30 => ?_)
              · have h := h.1 c30
                refine r_iconst (pc := 154) (v := 0) E dX9_readLine_154 (by decide) ?_
                exact r_forget (le_s (le_n (le_n (le_n (le_n (le_n (le_n le_0))))))) (t_X9_readLine_J155 E hr _ _ h)
              · have h := h.2 c30
                refine r_iconst (pc := 150) (v := 1) E dX9_readLine_150 (by decide) ?_
                refine r_goto (pc := 151) (tgt := 155) E dX9_readLine_151 (by decide) ?_
                exact r_forget (le_s (le_n (le_n (le_n (le_n (le_n (le_n le_0))))))) (t_X9_readLine_J155 E hr _ _ h)
      · have h := h.2 c23
        refine r_iconst (pc := 105) (v := 1) E dX9_readLine_105 (by decide) ?_
        refine r_goto (pc := 106) (tgt := 122) E dX9_readLine_106 (by decide) ?_
        refine r_put (pc := 122) (j := 34) E ok_63 kc_9 rfl q_810 rfl rfl rfl dX9_readLine_122 (fun s22 es22 => ?_)
        have h := h s22 es22
        refine r_aload_n (pc := 125) E dX9_readLine_125 rfl rfl ?_
        refine r_lload_n (pc := 126) E dX9_readLine_126 rfl rfl ?_
        refine r_ldc2 (pc := 127) (v := 2054123109) E q_1057 dX9_readLine_127 ?_
        refine r_lcmp (pc := 130) E dX9_readLine_130 ?_
        refine r_if_eq (pc := 131) (tgt := 150) E dX9_readLine_131 (by decide) (fun c31 => ?_) (fun c31 => ?_)
        · have h := h.1 c31
          refine r_iconst (pc := 150) (v := 1) E dX9_readLine_150 (by decide) ?_
          refine r_goto (pc := 151) (tgt := 155) E dX9_readLine_151 (by decide) ?_
          exact r_forget (le_s (le_n (le_n (le_n (le_n (le_n (le_n le_0))))))) (t_X9_readLine_J155 E hr _ _ h)
        · have h := h.2 c31
          refine r_lload_n (pc := 134) E dX9_readLine_134 rfl rfl ?_
          refine r_ldc2 (pc := 135) (v := 6385273) E q_1058 dX9_readLine_135 ?_
          refine r_lcmp (pc := 138) E dX9_readLine_138 ?_
          refine r_if_eq (pc := 139) (tgt := 150) E dX9_readLine_139 (by decide) (fun c32 => ?_) (fun c32 => ?_)
          · have h := h.1 c32
            refine r_iconst (pc := 150) (v := 1) E dX9_readLine_150 (by decide) ?_
            refine r_goto (pc := 151) (tgt := 155) E dX9_readLine_151 (by decide) ?_
            exact r_forget (le_s (le_n (le_n (le_n (le_n (le_n (le_n le_0))))))) (t_X9_readLine_J155 E hr _ _ h)
          · have h := h.2 c32
            refine r_lload_n (pc := 142) E dX9_readLine_142 rfl rfl ?_
            refine r_ldc2 (pc := 143) (v := 482854658917) E q_1059 dX9_readLine_143 ?_
            refine r_lcmp (pc := 146) E dX9_readLine_146 ?_
            refine r_if_ne (pc := 147) (tgt := 154) E dX9_readLine_147 (by decide) (fun c33 => ?_) (fun c33 => ?_)
            · have h := h.1 c33
              refine r_iconst (pc := 154) (v := 0) E dX9_readLine_154 (by decide) ?_
              exact r_forget (le_s (le_n (le_n (le_n (le_n (le_n (le_n le_0))))))) (t_X9_readLine_J155 E hr _ _ h)
            · have h := h.2 c33
              refine r_iconst (pc := 150) (v := 1) E dX9_readLine_150 (by decide) ?_
              refine r_goto (pc := 151) (tgt := 155) E dX9_readLine_151 (by decide) ?_
              exact r_forget (le_s (le_n (le_n (le_n (le_n (le_n (le_n le_0))))))) (t_X9_readLine_J155 E hr _ _ h)
  · have h := h.2 c4
    exact r_vret (pc := 82) E hr dX9_readLine_82 h

def w_X9_readLine_J42 (Q : ST → Prop) (s0 : ST) (v1 : Int64) : Prop := (((lg_cmp v1 1752132708) = 0 → (w_X9_readLine_J72 Q s0 v1 1)) ∧ (¬ ((lg_cmp v1 1752132708) = 0) → ((((lg_cmp v1 1918986606) = 0 → (w_X9_readLine_J72 Q s0 v1 1)) ∧ (¬ ((lg_cmp v1 1918986606) = 0) → (((¬ (lg_cmp v1 1919250036) = 0 → (w_X9_readLine_J72 Q s0 v1 0)) ∧ ((lg_cmp v1 1919250036) = 0 → (w_X9_readLine_J72 Q s0 v1 1)))))))))
set_option maxRecDepth 100000 in
set_option maxHeartbeats 4000000 in
theorem t_X9_readLine_J42 {p : Program} {l : Launch} {e : Env} {s : State} {m : MethodId} {args : Array Value} {below : List Frame} {meth : Method} {c : Code} {X : XT} (E : Ev p rm_X9_readLine s m args meth c X (xA X) 7 0 0 cX9_readLine RX9) (hr : meth.sig.returnType = none) {Q : ST → Prop} (s0 : ST) (v1 : Int64) (h : w_X9_readLine_J42 Q s0 v1) : G p l e rm_X9_readLine s m args below meth c X (xA X) 7 0 0 (MQ below (va_Qv Q (Bw X) (xA X)) args s 0 0 (xA X)) s0 42 [some (.ref (xa X 63)), some (.long v1), none, none, none, none, none] [] := by
  refine r_aload_n (pc := 42) E dX9_readLine_42 rfl rfl ?_
  refine r_lload_n (pc := 43) E dX9_readLine_43 rfl rfl ?_
  refine r_ldc2 (pc := 44) (v := 1752132708) E q_1052 dX9_readLine_44 ?_
  refine r_lcmp (pc := 47) E dX9_readLine_47 ?_
  refine r_if_eq (pc := 48) (tgt := 67) E dX9_readLine_48 (by decide) (fun c3 => ?_) (fun c3 => ?_)
  · have h := h.1 c3
    refine r_iconst (pc := 67) (v := 1) E dX9_readLine_67 (by decide) ?_
    refine r_goto (pc := 68) (tgt := 72) E dX9_readLine_68 (by decide) ?_
    exact r_forget (le_s (le_s (le_n (le_n (le_n (le_n (le_n le_0))))))) (t_X9_readLine_J72 E hr _ _ _ h)
  · have h := h.2 c3
    refine r_lload_n (pc := 51) E dX9_readLine_51 rfl rfl ?_
    refine r_ldc2 (pc := 52) (v := 1918986606) E q_1046 dX9_readLine_52 ?_
    refine r_lcmp (pc := 55) E dX9_readLine_55 ?_
    refine r_if_eq (pc := 56) (tgt := 67) E dX9_readLine_56 (by decide) (fun c34 => ?_) (fun c34 => ?_)
    · have h := h.1 c34
      refine r_iconst (pc := 67) (v := 1) E dX9_readLine_67 (by decide) ?_
      refine r_goto (pc := 68) (tgt := 72) E dX9_readLine_68 (by decide) ?_
      exact r_forget (le_s (le_s (le_n (le_n (le_n (le_n (le_n le_0))))))) (t_X9_readLine_J72 E hr _ _ _ h)
    · have h := h.2 c34
      refine r_lload_n (pc := 59) E dX9_readLine_59 rfl rfl ?_
      refine r_ldc2 (pc := 60) (v := 1919250036) E q_1047 dX9_readLine_60 ?_
      refine r_lcmp (pc := 63) E dX9_readLine_63 ?_
      refine r_if_ne (pc := 64) (tgt := 71) E dX9_readLine_64 (by decide) (fun c35 => ?_) (fun c35 => ?_)
      · have h := h.1 c35
        refine r_iconst (pc := 71) (v := 0) E dX9_readLine_71 (by decide) ?_
        exact r_forget (le_s (le_s (le_n (le_n (le_n (le_n (le_n le_0))))))) (t_X9_readLine_J72 E hr _ _ _ h)
      · have h := h.2 c35
        refine r_iconst (pc := 67) (v := 1) E dX9_readLine_67 (by decide) ?_
        refine r_goto (pc := 68) (tgt := 72) E dX9_readLine_68 (by decide) ?_
        exact r_forget (le_s (le_s (le_n (le_n (le_n (le_n (le_n le_0))))))) (t_X9_readLine_J72 E hr _ _ _ h)

def w_X9_readLine (s0 : ST) (Q : ST → Prop) : Prop := w_X9_word s0 (fun r1 s1 => ((¬ (lg_cmp r1 1918986606) = 0 → (((¬ (lg_cmp r1 1919250036) = 0 → (w_X9_readLine_J42 Q s1 r1)) ∧ ((lg_cmp r1 1919250036) = 0 → (((¬ (s1 63 38) = 5 → (w_X9_readLine_J42 Q s1 r1)) ∧ ((s1 63 38) = 5 → (w_X9_bad s1 3 (fun s23 => w_X9_readLine_J42 Q s23 r1))))))))) ∧ ((lg_cmp r1 1918986606) = 0 → ((((s1 63 35) = 5 → (w_X9_bad s1 3 (fun s24 => w_X9_readLine_J42 Q s24 r1))) ∧ (¬ ((s1 63 35) = 5) → (((¬ (lg_cmp r1 1919250036) = 0 → (w_X9_readLine_J42 Q s1 r1)) ∧ ((lg_cmp r1 1919250036) = 0 → (((¬ (s1 63 38) = 5 → (w_X9_readLine_J42 Q s1 r1)) ∧ ((s1 63 38) = 5 → (w_X9_bad s1 3 (fun s25 => w_X9_readLine_J42 Q s25 r1))))))))))))))
set_option maxRecDepth 100000 in
set_option maxHeartbeats 4000000 in
theorem c_X9_readLine {l : Launch} (X : XT) (s0 : ST) (Q : ST → Prop) (h : w_X9_readLine s0 Q) : MetV l yX9_readLine (wS yX9_readLine cX9_readLine 7 none) rm_X9_readLine X s0 [.ref (xa X 63)] Q := by
  refine metG (own := RX9) (k := 6) (lv0 := [some (.ref (xa X 63)), none, none, none, none, none, none]) (by decide) rfl rfl rfl ?_
  intro p e s m args below meth c E hr
  refine r_aload_n (pc := 0) E dX9_readLine_0 rfl rfl ?_
  refine afterL (pc := 1) E (fun H locs ls hP hS hl => runV (As := []) (rest := []) E (c_X9_word X _  _  h) ok_63 kc_9.1 ci_X9_word q_1042 rfl rfl rfl rfl dX9_readLine_1 hP hS hl) (fun r1 s1 h => ?_)
  refine r_lstore_n (pc := 4) (lv' := [some (.ref (xa X 63)), some (.long r1), none, none, none, none, none]) E dX9_readLine_4 rfl rfl rfl rfl ?_
  refine r_lload_n (pc := 5) E dX9_readLine_5 rfl rfl ?_
  refine r_ldc2 (pc := 6) (v := 1918986606) E q_1046 dX9_readLine_6 ?_
  refine r_lcmp (pc := 9) E dX9_readLine_9 ?_
  refine r_if_ne (pc := 10) (tgt := 21) E dX9_readLine_10 (by decide) (fun c1 => ?_) (fun c1 => ?_)
  · have h := h.1 c1
    refine r_lload_n (pc := 21) E dX9_readLine_21 rfl rfl ?_
    refine r_ldc2 (pc := 22) (v := 1919250036) E q_1047 dX9_readLine_22 ?_
    refine r_lcmp (pc := 25) E dX9_readLine_25 ?_
    refine r_if_ne (pc := 26) (tgt := 42) E dX9_readLine_26 (by decide) (fun c2 => ?_) (fun c2 => ?_)
    · have h := h.1 c2
      exact r_forget (le_s (le_s (le_n (le_n (le_n (le_n (le_n le_0))))))) (t_X9_readLine_J42 E hr _ _ h)
    · have h := h.2 c2
      refine r_aload_n (pc := 29) E dX9_readLine_29 rfl rfl ?_
      refine r_get (pc := 30) (j := 38) E ok_63 kc_9 rfl q_814 (svI rfl) dX9_readLine_30 ?_
      refine r_iconst (pc := 33) (v := 5) E dX9_readLine_33 (by decide) ?_
      refine r_icmp_ne (pc := 34) (tgt := 42) E dX9_readLine_34 (by decide) (fun c36 => ?_) (fun c36 => ?_)
      · have h := h.1 c36
        exact r_forget (le_s (le_s (le_n (le_n (le_n (le_n (le_n le_0))))))) (t_X9_readLine_J42 E hr _ _ h)
      · have h := h.2 c36
        refine r_aload_n (pc := 37) E dX9_readLine_37 rfl rfl ?_
        refine r_iconst (pc := 38) (v := 3) E dX9_readLine_38 (by decide) ?_
        refine afterV (pc := 39) E (fun H locs ls hP hS hl => runV (As := [.int 3]) (rest := []) E (c_X9_bad X _ _ _  h) ok_63 kc_9.1 ci_X9_bad q_1048 rfl rfl rfl rfl dX9_readLine_39 hP hS hl) (fun s23 h => ?_)
        exact r_forget (le_s (le_s (le_n (le_n (le_n (le_n (le_n le_0))))))) (t_X9_readLine_J42 E hr _ _ h)
  · have h := h.2 c1
    refine r_aload_n (pc := 13) E dX9_readLine_13 rfl rfl ?_
    refine r_get (pc := 14) (j := 35) E ok_63 kc_9 rfl q_811 (svI rfl) dX9_readLine_14 ?_
    refine r_iconst (pc := 17) (v := 5) E dX9_readLine_17 (by decide) ?_
    refine r_icmp_eq (pc := 18) (tgt := 37) E dX9_readLine_18 (by decide) (fun c37 => ?_) (fun c37 => ?_)
    · have h := h.1 c37
      refine r_aload_n (pc := 37) E dX9_readLine_37 rfl rfl ?_
      refine r_iconst (pc := 38) (v := 3) E dX9_readLine_38 (by decide) ?_
      refine afterV (pc := 39) E (fun H locs ls hP hS hl => runV (As := [.int 3]) (rest := []) E (c_X9_bad X _ _ _  h) ok_63 kc_9.1 ci_X9_bad q_1048 rfl rfl rfl rfl dX9_readLine_39 hP hS hl) (fun s24 h => ?_)
      exact r_forget (le_s (le_s (le_n (le_n (le_n (le_n (le_n le_0))))))) (t_X9_readLine_J42 E hr _ _ h)
    · have h := h.2 c37
      refine r_lload_n (pc := 21) E dX9_readLine_21 rfl rfl ?_
      refine r_ldc2 (pc := 22) (v := 1919250036) E q_1047 dX9_readLine_22 ?_
      refine r_lcmp (pc := 25) E dX9_readLine_25 ?_
      refine r_if_ne (pc := 26) (tgt := 42) E dX9_readLine_26 (by decide) (fun c38 => ?_) (fun c38 => ?_)
      · have h := h.1 c38
        exact r_forget (le_s (le_s (le_n (le_n (le_n (le_n (le_n le_0))))))) (t_X9_readLine_J42 E hr _ _ h)
      · have h := h.2 c38
        refine r_aload_n (pc := 29) E dX9_readLine_29 rfl rfl ?_
        refine r_get (pc := 30) (j := 38) E ok_63 kc_9 rfl q_814 (svI rfl) dX9_readLine_30 ?_
        refine r_iconst (pc := 33) (v := 5) E dX9_readLine_33 (by decide) ?_
        refine r_icmp_ne (pc := 34) (tgt := 42) E dX9_readLine_34 (by decide) (fun c39 => ?_) (fun c39 => ?_)
        · have h := h.1 c39
          exact r_forget (le_s (le_s (le_n (le_n (le_n (le_n (le_n le_0))))))) (t_X9_readLine_J42 E hr _ _ h)
        · have h := h.2 c39
          refine r_aload_n (pc := 37) E dX9_readLine_37 rfl rfl ?_
          refine r_iconst (pc := 38) (v := 3) E dX9_readLine_38 (by decide) ?_
          refine afterV (pc := 39) E (fun H locs ls hP hS hl => runV (As := [.int 3]) (rest := []) E (c_X9_bad X _ _ _  h) ok_63 kc_9.1 ci_X9_bad q_1048 rfl rfl rfl rfl dX9_readLine_39 hP hS hl) (fun s25 h => ?_)
          exact r_forget (le_s (le_s (le_n (le_n (le_n (le_n (le_n le_0))))))) (t_X9_readLine_J42 E hr _ _ h)

/-! ChairFrontModel.rules -/
def rm_X9_rules : Room := { frames := 5, cells := 0, slots := 0, locals := 113 }
theorem ci_X9_rules : CI yX9_rules RX9 cX9_rules 3 (some .int) 0 := ⟨q_1021, q_1022, q_65, q_1023, by decide +kernel⟩
def w_X9_rules_L49 (K : ST → Int32 → Prop) (Q : Int32 → ST → Prop) : Nat → ST → Int32 → Prop
  | 0, _, _ => False
  | n + 1, s0, v1 => ((¬ (s0 63 49) = 0 → (K s0 v1)) ∧ ((s0 63 49) = 0 → ((((s0 63 46) = 1 → (K s0 v1)) ∧ (¬ ((s0 63 46) = 1) → (w_X9_readLine s0 (fun s10 => ∀ x1 : Int32, x1 = v1 + 1 → (w_X9_rules_L49 K Q n s10 x1))))))))
set_option maxRecDepth 100000 in
set_option maxHeartbeats 4000000 in
theorem t_X9_rules_L49 {p : Program} {l : Launch} {e : Env} {s : State} {m : MethodId} {args : Array Value} {below : List Frame} {meth : Method} {c : Code} {X : XT} (E : Ev p rm_X9_rules s m args meth c X (xA X) 3 0 0 cX9_rules RX9) (hr : meth.sig.returnType = (some .int)) {K : ST → Int32 → Prop} {Q : Int32 → ST → Prop} (hK : ∀ (s0 : ST) (v1 : Int32), K s0 v1 → G p l e rm_X9_rules s m args below meth c X (xA X) 3 0 0 (MQ below (va_Qi Q (Bw X) (xA X)) args s 0 0 (xA X)) s0 74 [some (.ref (xa X 63)), some (.int v1), none] []) : ∀ (n : Nat) (s0 : ST) (v1 : Int32), w_X9_rules_L49 K Q n s0 v1 → G p l e rm_X9_rules s m args below meth c X (xA X) 3 0 0 (MQ below (va_Qi Q (Bw X) (xA X)) args s 0 0 (xA X)) s0 49 [some (.ref (xa X 63)), some (.int v1), none] [] := by
  intro n
  induction n with
  | zero => intro s0 v1 h; exact h.elim
  | succ n ih =>
    intro s0 v1 h
    refine r_aload_n (pc := 49) E dX9_rules_49 rfl rfl ?_
    refine r_get (pc := 50) (j := 49) E ok_63 kc_9 rfl q_825 (svI rfl) dX9_rules_50 ?_
    refine r_if_ne (pc := 53) (tgt := 74) E dX9_rules_53 (by decide) (fun c1 => ?_) (fun c1 => ?_)
    · have h := h.1 c1
      exact r_forget (le_s (le_s (le_n le_0))) (hK _ _ h)
    · have h := h.2 c1
      refine r_aload_n (pc := 56) E dX9_rules_56 rfl rfl ?_
      refine r_get (pc := 57) (j := 46) E ok_63 kc_9 rfl q_822 (svI rfl) dX9_rules_57 ?_
      refine r_iconst (pc := 60) (v := 1) E dX9_rules_60 (by decide) ?_
      refine r_icmp_eq (pc := 61) (tgt := 74) E dX9_rules_61 (by decide) (fun c2 => ?_) (fun c2 => ?_)
      · have h := h.1 c2
        exact r_forget (le_s (le_s (le_n le_0))) (hK _ _ h)
      · have h := h.2 c2
        refine r_aload_n (pc := 64) E dX9_rules_64 rfl rfl ?_
        refine afterV (pc := 65) E (fun H locs ls hP hS hl => runV (As := []) (rest := []) E (c_X9_readLine X _  _  h) ok_63 kc_9.1 ci_X9_readLine q_1038 rfl rfl rfl rfl dX9_rules_65 hP hS hl) (fun s10 h => ?_)
        obtain ⟨x1, ex1⟩ : ∃ z : Int32, z = v1 + 1 := ⟨_, rfl⟩
        have h := h x1 ex1
        refine r_iinc (pc := 68) (v := 1) (lv' := [some (.ref (xa X 63)), some (.int x1), none]) E dX9_rules_68 rfl (by decide) rfl rfl (by rw [ex1]; rfl) ?_
        refine r_goto (pc := 71) (tgt := 49) E dX9_rules_71 (by decide) ?_
        exact r_forget (le_s (le_s (le_n le_0))) (ih _ _ h)

def w_X9_rules_L124 (v1 : Int32) (K : ST → Prop) (Q : Int32 → ST → Prop) : Nat → ST → Int32 → Prop
  | 0, _, _ => False
  | n + 1, s0, v2 => (((5 : Int32) ≤ v2 → (K s0)) ∧ (¬ ((5 : Int32) ≤ v2) → (vp_in v2 5 ∧ (vp_in v2 5 ∧ (∀ s15 : ST, s15 = up s0 78 v2.toNatClampNeg (s0 82 v2.toNatClampNeg) → (vp_in v2 5 ∧ (vp_in v2 5 ∧ (∀ s16 : ST, s16 = up s15 79 v2.toNatClampNeg (s15 83 v2.toNatClampNeg) → (vp_in v2 5 ∧ (vp_in v2 5 ∧ (∀ s17 : ST, s17 = up s16 80 v2.toNatClampNeg (s16 84 v2.toNatClampNeg) → (vp_in v2 5 ∧ (vp_in v2 5 ∧ (∀ s18 : ST, s18 = up s17 81 v2.toNatClampNeg (s17 85 v2.toNatClampNeg) → (∀ x3 : Int32, x3 = v2 + 1 → (w_X9_rules_L124 v1 K Q n s18 x3))))))))))))))))
set_option maxRecDepth 100000 in
set_option maxHeartbeats 4000000 in
theorem t_X9_rules_L124 {p : Program} {l : Launch} {e : Env} {s : State} {m : MethodId} {args : Array Value} {below : List Frame} {meth : Method} {c : Code} {X : XT} (E : Ev p rm_X9_rules s m args meth c X (xA X) 3 0 0 cX9_rules RX9) (hr : meth.sig.returnType = (some .int)) {v1 : Int32} {K : ST → Prop} {Q : Int32 → ST → Prop} (hK : ∀ (s0 : ST), K s0 → G p l e rm_X9_rules s m args below meth c X (xA X) 3 0 0 (MQ below (va_Qi Q (Bw X) (xA X)) args s 0 0 (xA X)) s0 183 [none, some (.int v1), none] []) : ∀ (n : Nat) (s0 : ST) (v2 : Int32), w_X9_rules_L124 v1 K Q n s0 v2 → G p l e rm_X9_rules s m args below meth c X (xA X) 3 0 0 (MQ below (va_Qi Q (Bw X) (xA X)) args s 0 0 (xA X)) s0 124 [some (.ref (xa X 63)), some (.int v1), some (.int v2)] [] := by
  intro n
  induction n with
  | zero => intro s0 v2 h; exact h.elim
  | succ n ih =>
    intro s0 v2 h
    refine r_iload_n (pc := 124) E dX9_rules_124 rfl rfl ?_
    refine r_iconst (pc := 125) (v := 5) E dX9_rules_125 (by decide) ?_
    refine r_icmp_ge (pc := 126) (tgt := 183) E dX9_rules_126 (by decide) (fun c4 => ?_) (fun c4 => ?_)
    · have h := h.1 c4
      exact r_forget (le_n (le_s (le_n le_0))) (hK _  h)
    · have h := h.2 c4
      refine r_aload_n (pc := 129) E dX9_rules_129 rfl rfl ?_
      refine r_get (pc := 130) (j := 29) (v := .ref (xa X 78)) E ok_63 kc_9 rfl q_805 rfl dX9_rules_130 ?_
      refine r_iload_n (pc := 133) E dX9_rules_133 rfl rfl ?_
      refine r_aload_n (pc := 134) E dX9_rules_134 rfl rfl ?_
      refine r_get (pc := 135) (j := 36) (v := .ref (xa X 82)) E ok_63 kc_9 rfl q_812 rfl dX9_rules_135 ?_
      refine r_iload_n (pc := 138) E dX9_rules_138 rfl rfl ?_
      refine r_iald (pc := 139) (n := 5) E ok_82 rfl h.1 dX9_rules_139 ?_
      have h := h.2
      refine r_iast (pc := 140) (n := 5) E ok_78 rfl h.1 dX9_rules_140 (fun s15 es15 => ?_)
      have h := h.2 s15 es15
      refine r_aload_n (pc := 141) E dX9_rules_141 rfl rfl ?_
      refine r_get (pc := 142) (j := 30) (v := .ref (xa X 79)) E ok_63 kc_9 rfl q_806 rfl dX9_rules_142 ?_
      refine r_iload_n (pc := 145) E dX9_rules_145 rfl rfl ?_
      refine r_aload_n (pc := 146) E dX9_rules_146 rfl rfl ?_
      refine r_get (pc := 147) (j := 37) (v := .ref (xa X 83)) E ok_63 kc_9 rfl q_813 rfl dX9_rules_147 ?_
      refine r_iload_n (pc := 150) E dX9_rules_150 rfl rfl ?_
      refine r_iald (pc := 151) (n := 5) E ok_83 rfl h.1 dX9_rules_151 ?_
      have h := h.2
      refine r_iast (pc := 152) (n := 5) E ok_79 rfl h.1 dX9_rules_152 (fun s16 es16 => ?_)
      have h := h.2 s16 es16
      refine r_aload_n (pc := 153) E dX9_rules_153 rfl rfl ?_
      refine r_get (pc := 154) (j := 32) (v := .ref (xa X 80)) E ok_63 kc_9 rfl q_808 rfl dX9_rules_154 ?_
      refine r_iload_n (pc := 157) E dX9_rules_157 rfl rfl ?_
      refine r_aload_n (pc := 158) E dX9_rules_158 rfl rfl ?_
      refine r_get (pc := 159) (j := 39) (v := .ref (xa X 84)) E ok_63 kc_9 rfl q_815 rfl dX9_rules_159 ?_
      refine r_iload_n (pc := 162) E dX9_rules_162 rfl rfl ?_
      refine r_iald (pc := 163) (n := 5) E ok_84 rfl h.1 dX9_rules_163 ?_
      have h := h.2
      refine r_iast (pc := 164) (n := 5) E ok_80 rfl h.1 dX9_rules_164 (fun s17 es17 => ?_)
      have h := h.2 s17 es17
      refine r_aload_n (pc := 165) E dX9_rules_165 rfl rfl ?_
      refine r_get (pc := 166) (j := 33) (v := .ref (xa X 81)) E ok_63 kc_9 rfl q_809 rfl dX9_rules_166 ?_
      refine r_iload_n (pc := 169) E dX9_rules_169 rfl rfl ?_
      refine r_aload_n (pc := 170) E dX9_rules_170 rfl rfl ?_
      refine r_get (pc := 171) (j := 40) (v := .ref (xa X 85)) E ok_63 kc_9 rfl q_816 rfl dX9_rules_171 ?_
      refine r_iload_n (pc := 174) E dX9_rules_174 rfl rfl ?_
      refine r_iald (pc := 175) (n := 5) E ok_85 rfl h.1 dX9_rules_175 ?_
      have h := h.2
      refine r_iast (pc := 176) (n := 5) E ok_81 rfl h.1 dX9_rules_176 (fun s18 es18 => ?_)
      have h := h.2 s18 es18
      obtain ⟨x3, ex3⟩ : ∃ z : Int32, z = v2 + 1 := ⟨_, rfl⟩
      have h := h x3 ex3
      refine r_iinc (pc := 177) (v := 1) (lv' := [some (.ref (xa X 63)), some (.int v1), some (.int x3)]) E dX9_rules_177 rfl (by decide) rfl rfl (by rw [ex3]; rfl) ?_
      refine r_goto (pc := 180) (tgt := 124) E dX9_rules_180 (by decide) ?_
      exact r_forget (le_s (le_s (le_s le_0))) (ih _ _ h)

def w_X9_rules (s0 : ST) (Q : Int32 → ST → Prop) : Prop := ∀ s1 : ST, s1 = up s0 63 0 0 → (∀ s2 : ST, s2 = up s1 63 44 (s1 63 42) → (∀ s3 : ST, s3 = up s2 63 42 0 → (∀ s4 : ST, s4 = up s3 63 45 0 → (∀ s5 : ST, s5 = up s4 63 49 0 → (∀ s6 : ST, s6 = up s5 63 34 0 → (∀ s7 : ST, s7 = up s6 63 35 0 → (∀ s8 : ST, s8 = up s7 63 38 0 → (w_X9_step s8 (fun s9 => ∃ n1 : Nat, w_X9_rules_L49 (fun (s11 : ST) (x2 : Int32) => (((s11 63 49) ≤ 0 → (∀ s12 : ST, s12 = up s11 63 27 (s11 63 34) → (∀ s13 : ST, s13 = up s12 63 28 (s12 63 35) → (∀ s14 : ST, s14 = up s13 63 31 (s13 63 38) → (∃ n2 : Nat, w_X9_rules_L124 x2 (fun (s19 : ST) => Q x2 s19) Q n2 s14 0))))) ∧ (¬ ((s11 63 49) ≤ 0) → (∀ s20 : ST, s20 = up s11 63 43 (s11 63 49) → (Q ((-1000100) - (s20 63 50)) s20))))) Q n1 s9 0)))))))))
set_option maxRecDepth 100000 in
set_option maxHeartbeats 4000000 in
theorem c_X9_rules {l : Launch} (X : XT) (s0 : ST) (Q : Int32 → ST → Prop) (h : w_X9_rules s0 Q) : MetI l yX9_rules (wS yX9_rules cX9_rules 3 (some .int)) rm_X9_rules X s0 [.ref (xa X 63)] Q := by
  refine metG (own := RX9) (k := 2) (lv0 := [some (.ref (xa X 63)), none, none]) (by decide) rfl rfl rfl ?_
  intro p e s m args below meth c E hr
  refine r_aload_n (pc := 0) E dX9_rules_0 rfl rfl ?_
  refine r_iconst (pc := 1) (v := 0) E dX9_rules_1 (by decide) ?_
  refine r_put (pc := 2) (j := 0) E ok_63 kc_9 rfl q_776 rfl rfl rfl dX9_rules_2 (fun s1 es1 => ?_)
  have h := h s1 es1
  refine r_aload_n (pc := 5) E dX9_rules_5 rfl rfl ?_
  refine r_aload_n (pc := 6) E dX9_rules_6 rfl rfl ?_
  refine r_get (pc := 7) (j := 42) E ok_63 kc_9 rfl q_818 (svI rfl) dX9_rules_7 ?_
  refine r_put (pc := 10) (j := 44) E ok_63 kc_9 rfl q_820 rfl rfl rfl dX9_rules_10 (fun s2 es2 => ?_)
  have h := h s2 es2
  refine r_aload_n (pc := 13) E dX9_rules_13 rfl rfl ?_
  refine r_iconst (pc := 14) (v := 0) E dX9_rules_14 (by decide) ?_
  refine r_put (pc := 15) (j := 42) E ok_63 kc_9 rfl q_818 rfl rfl rfl dX9_rules_15 (fun s3 es3 => ?_)
  have h := h s3 es3
  refine r_aload_n (pc := 18) E dX9_rules_18 rfl rfl ?_
  refine r_iconst (pc := 19) (v := 0) E dX9_rules_19 (by decide) ?_
  refine r_put (pc := 20) (j := 45) E ok_63 kc_9 rfl q_821 rfl rfl rfl dX9_rules_20 (fun s4 es4 => ?_)
  have h := h s4 es4
  refine r_aload_n (pc := 23) E dX9_rules_23 rfl rfl ?_
  refine r_iconst (pc := 24) (v := 0) E dX9_rules_24 (by decide) ?_
  refine r_put (pc := 25) (j := 49) E ok_63 kc_9 rfl q_825 rfl rfl rfl dX9_rules_25 (fun s5 es5 => ?_)
  have h := h s5 es5
  refine r_aload_n (pc := 28) E dX9_rules_28 rfl rfl ?_
  refine r_iconst (pc := 29) (v := 0) E dX9_rules_29 (by decide) ?_
  refine r_put (pc := 30) (j := 34) E ok_63 kc_9 rfl q_810 rfl rfl rfl dX9_rules_30 (fun s6 es6 => ?_)
  have h := h s6 es6
  refine r_aload_n (pc := 33) E dX9_rules_33 rfl rfl ?_
  refine r_iconst (pc := 34) (v := 0) E dX9_rules_34 (by decide) ?_
  refine r_put (pc := 35) (j := 35) E ok_63 kc_9 rfl q_811 rfl rfl rfl dX9_rules_35 (fun s7 es7 => ?_)
  have h := h s7 es7
  refine r_aload_n (pc := 38) E dX9_rules_38 rfl rfl ?_
  refine r_iconst (pc := 39) (v := 0) E dX9_rules_39 (by decide) ?_
  refine r_put (pc := 40) (j := 38) E ok_63 kc_9 rfl q_814 rfl rfl rfl dX9_rules_40 (fun s8 es8 => ?_)
  have h := h s8 es8
  refine r_iconst (pc := 43) (v := 0) E dX9_rules_43 (by decide) ?_
  refine r_istore_n (pc := 44) (lv' := [some (.ref (xa X 63)), some (.int 0), none]) E dX9_rules_44 rfl rfl rfl rfl ?_
  refine r_aload_n (pc := 45) E dX9_rules_45 rfl rfl ?_
  refine afterV (pc := 46) E (fun H locs ls hP hS hl => runV (As := []) (rest := []) E (c_X9_step X _  _  h) ok_63 kc_9.1 ci_X9_step q_1024 rfl rfl rfl rfl dX9_rules_46 hP hS hl) (fun s9 h => ?_)
  obtain ⟨n1, h⟩ := h
  refine r_forget (le_s (le_s (le_n le_0))) (t_X9_rules_L49 E hr ?_ n1 _ _ h)
  intro s11 x2 h
  refine r_aload_n (pc := 74) E dX9_rules_74 rfl rfl ?_
  refine r_get (pc := 75) (j := 49) E ok_63 kc_9 rfl q_825 (svI rfl) dX9_rules_75 ?_
  refine r_if_le (pc := 78) (tgt := 98) E dX9_rules_78 (by decide) (fun c3 => ?_) (fun c3 => ?_)
  · have h := h.1 c3
    refine r_aload_n (pc := 98) E dX9_rules_98 rfl rfl ?_
    refine r_aload_n (pc := 99) E dX9_rules_99 rfl rfl ?_
    refine r_get (pc := 100) (j := 34) E ok_63 kc_9 rfl q_810 (svI rfl) dX9_rules_100 ?_
    refine r_put (pc := 103) (j := 27) E ok_63 kc_9 rfl q_803 rfl rfl rfl dX9_rules_103 (fun s12 es12 => ?_)
    have h := h s12 es12
    refine r_aload_n (pc := 106) E dX9_rules_106 rfl rfl ?_
    refine r_aload_n (pc := 107) E dX9_rules_107 rfl rfl ?_
    refine r_get (pc := 108) (j := 35) E ok_63 kc_9 rfl q_811 (svI rfl) dX9_rules_108 ?_
    refine r_put (pc := 111) (j := 28) E ok_63 kc_9 rfl q_804 rfl rfl rfl dX9_rules_111 (fun s13 es13 => ?_)
    have h := h s13 es13
    refine r_aload_n (pc := 114) E dX9_rules_114 rfl rfl ?_
    refine r_aload_n (pc := 115) E dX9_rules_115 rfl rfl ?_
    refine r_get (pc := 116) (j := 38) E ok_63 kc_9 rfl q_814 (svI rfl) dX9_rules_116 ?_
    refine r_put (pc := 119) (j := 31) E ok_63 kc_9 rfl q_807 rfl rfl rfl dX9_rules_119 (fun s14 es14 => ?_)
    have h := h s14 es14
    refine r_iconst (pc := 122) (v := 0) E dX9_rules_122 (by decide) ?_
    refine r_istore_n (pc := 123) (lv' := [some (.ref (xa X 63)), some (.int x2), some (.int 0)]) E dX9_rules_123 rfl rfl rfl rfl ?_
    obtain ⟨n2, h⟩ := h
    refine r_forget (le_s (le_s (le_s le_0))) (t_X9_rules_L124 E hr ?_ n2 _ _ h)
    intro s19 h
    refine r_iload_n (pc := 183) E dX9_rules_183 rfl rfl ?_
    exact r_iret (pc := 184) E hr dX9_rules_184 h
  · have h := h.2 c3
    refine r_aload_n (pc := 81) E dX9_rules_81 rfl rfl ?_
    refine r_aload_n (pc := 82) E dX9_rules_82 rfl rfl ?_
    refine r_get (pc := 83) (j := 49) E ok_63 kc_9 rfl q_825 (svI rfl) dX9_rules_83 ?_
    refine r_put (pc := 86) (j := 43) E ok_63 kc_9 rfl q_819 rfl rfl rfl dX9_rules_86 (fun s20 es20 => ?_)
    have h := h s20 es20
    refine r_ldcw (pc := 89) (v := (-1000100)) E q_1066 dX9_rules_89 ?_
    refine r_aload_n (pc := 92) E dX9_rules_92 rfl rfl ?_
    refine r_get (pc := 93) (j := 50) E ok_63 kc_9 rfl q_826 (svI rfl) dX9_rules_93 ?_
    refine r_isub (pc := 96) E dX9_rules_96 ?_
    exact r_iret (pc := 97) E hr dX9_rules_97 h

