/-! ChairFront.within -/
def rm_X8_within : Room := { frames := 0, cells := 0, slots := 0, locals := 0 }
theorem cs_X8_within : CS yX8_within cX8_within 3 (some .boolean) 3 := ⟨q_357, q_55, q_358, by decide +kernel⟩
def w_X8_within (s0 : ST) (a0 : Int32) (a1 : Int32) (a2 : Int32) (Q : Int32 → ST → Prop) : Prop := ((a0 < a1 → (Q 0 s0)) ∧ (¬ (a0 < a1) → (((a2 < a0 → (Q 0 s0)) ∧ (¬ (a2 < a0) → (Q 1 s0))))))
set_option maxRecDepth 100000 in
set_option maxHeartbeats 4000000 in
theorem c_X8_within {l : Launch} (X : XT) (s0 : ST) (a0 : Int32) (a1 : Int32) (a2 : Int32) (Q : Int32 → ST → Prop) (h : w_X8_within s0 a0 a1 a2 Q) : MetI l yX8_within (wS yX8_within cX8_within 3 (some .boolean)) rm_X8_within X s0 [.int a0, .int a1, .int a2] Q := by
  refine metG (own := RX8) (k := 0) (lv0 := [some (.int a0), some (.int a1), some (.int a2)]) (by decide) rfl rfl rfl ?_
  intro p e s m args below meth c E hr
  refine r_iload_n (pc := 0) E dX8_within_0 rfl rfl ?_
  refine r_iload_n (pc := 1) E dX8_within_1 rfl rfl ?_
  refine r_icmp_lt (pc := 2) (tgt := 14) E dX8_within_2 (by decide) (fun c1 => ?_) (fun c1 => ?_)
  · have h := h.1 c1
    refine r_iconst (pc := 14) (v := 0) E dX8_within_14 (by decide) ?_
    exact r_zret (pc := 15) E hr dX8_within_15 rfl h
  · have h := h.2 c1
    refine r_iload_n (pc := 5) E dX8_within_5 rfl rfl ?_
    refine r_iload_n (pc := 6) E dX8_within_6 rfl rfl ?_
    refine r_icmp_gt (pc := 7) (tgt := 14) E dX8_within_7 (by decide) (fun c2 => ?_) (fun c2 => ?_)
    · have h := h.1 c2
      refine r_iconst (pc := 14) (v := 0) E dX8_within_14 (by decide) ?_
      exact r_zret (pc := 15) E hr dX8_within_15 rfl h
    · have h := h.2 c2
      refine r_iconst (pc := 10) (v := 1) E dX8_within_10 (by decide) ?_
      refine r_goto (pc := 11) (tgt := 15) E dX8_within_11 (by decide) ?_
      exact r_zret (pc := 15) E hr dX8_within_15 rfl h

/-! ChairFront.stretch -/
def rm_X8_stretch : Room := { frames := 1, cells := 0, slots := 0, locals := 22 }
theorem ci_X8_stretch : CI yX8_stretch RX8 cX8_stretch 4 (some .int) 2 := ⟨q_353, q_354, q_55, q_355, by decide +kernel⟩
def w_X8_stretch (s0 : ST) (a1 : Int32) (a2 : Int32) (Q : Int32 → ST → Prop) : Prop := w_X8_within s0 a1 0 500 (fun r1 s1 => ((r1 = 0 → (Q (-1000001) s1)) ∧ (¬ (r1 = 0) → (w_X8_within s1 a2 0 3 (fun r2 s2 => ((¬ r2 = 0 → ((((s2 0 7) < 10 → (vp_in (s2 0 7) 10 ∧ (∀ k1 : Nat, k1 = 23 + (s2 0 7).toNatClampNeg → (∀ s3 : ST, s3 = up s2 k1 0 a1 → (∀ s4 : ST, s4 = up s3 k1 1 a2 → (∀ s5 : ST, s5 = up s4 0 7 ((s4 0 7) + 1) → (Q ((s5 0 7) - 1) s5))))))) ∧ (¬ ((s2 0 7) < 10) → (Q (-1000003) s2))))) ∧ (r2 = 0 → (Q (-1000001) s2))))))))
set_option maxRecDepth 100000 in
set_option maxHeartbeats 4000000 in
theorem c_X8_stretch {l : Launch} (X : XT) (s0 : ST) (a1 : Int32) (a2 : Int32) (Q : Int32 → ST → Prop) (h : w_X8_stretch s0 a1 a2 Q) : MetI l yX8_stretch (wS yX8_stretch cX8_stretch 4 (some .int)) rm_X8_stretch X s0 [.ref (xa X 0), .int a1, .int a2] Q := by
  refine metG (own := RX8) (k := 1) (lv0 := [some (.ref (xa X 0)), some (.int a1), some (.int a2), none]) (by decide) rfl rfl rfl ?_
  intro p e s m args below meth c E hr
  refine r_iload_n (pc := 0) E dX8_stretch_0 rfl rfl ?_
  refine r_iconst (pc := 1) (v := 0) E dX8_stretch_1 (by decide) ?_
  refine r_sipush (pc := 2) (v := 500) E dX8_stretch_2 (by decide) ?_
  refine afterI (pc := 5) E (fun H locs ls hP hS hl => runS (As := [.int a1, .int 0, .int 500]) (rest := []) E (c_X8_within X _ _ _ _ _  h) cs_X8_within q_356 rfl rfl rfl rfl dX8_stretch_5 hP hS hl) (fun r1 s1 h => ?_)
  refine r_if_eq (pc := 8) (tgt := 20) E dX8_stretch_8 (by decide) (fun c1 => ?_) (fun c1 => ?_)
  · have h := h.1 c1
    refine r_ldc (pc := 20) (v := (-1000001)) E q_359 dX8_stretch_20 ?_
    exact r_iret (pc := 22) E hr dX8_stretch_22 h
  · have h := h.2 c1
    refine r_iload_n (pc := 11) E dX8_stretch_11 rfl rfl ?_
    refine r_iconst (pc := 12) (v := 0) E dX8_stretch_12 (by decide) ?_
    refine r_iconst (pc := 13) (v := 3) E dX8_stretch_13 (by decide) ?_
    refine afterI (pc := 14) E (fun H locs ls hP hS hl => runS (As := [.int a2, .int 0, .int 3]) (rest := []) E (c_X8_within X _ _ _ _ _  h) cs_X8_within q_356 rfl rfl rfl rfl dX8_stretch_14 hP hS hl) (fun r2 s2 h => ?_)
    refine r_if_ne (pc := 17) (tgt := 23) E dX8_stretch_17 (by decide) (fun c2 => ?_) (fun c2 => ?_)
    · have h := h.1 c2
      refine r_aload_n (pc := 23) E dX8_stretch_23 rfl rfl ?_
      refine r_get (pc := 24) (j := 7) E ok_0 kc_8 rfl q_310 (svI rfl) dX8_stretch_24 ?_
      refine r_aload_n (pc := 27) E dX8_stretch_27 rfl rfl ?_
      refine r_get (pc := 28) (j := 8) (v := .ref (xa X 1)) E ok_0 kc_8 rfl q_311 rfl dX8_stretch_28 ?_
      refine r_alen (pc := 31) (v := 10) E (by decide) rfl rfl rfl dX8_stretch_31 ?_
      refine r_icmp_lt (pc := 32) (tgt := 38) E dX8_stretch_32 (by decide) (fun c3 => ?_) (fun c3 => ?_)
      · have h := h.1 c3
        refine r_aload_n (pc := 38) E dX8_stretch_38 rfl rfl ?_
        refine r_get (pc := 39) (j := 8) (v := .ref (xa X 1)) E ok_0 kc_8 rfl q_311 rfl dX8_stretch_39 ?_
        refine r_aload_n (pc := 42) E dX8_stretch_42 rfl rfl ?_
        refine r_get (pc := 43) (j := 7) E ok_0 kc_8 rfl q_310 (svI rfl) dX8_stretch_43 ?_
        refine r_aldSn (pc := 46) E h.1 dX8_stretch_46 (fun k1 ek1 ok1 => ?_)
        have h := h.2 k1 ek1
        refine r_astore_n (pc := 47) (lv' := [some (.ref (xa X 0)), some (.int a1), some (.int a2), some (.ref (xa X k1))]) E dX8_stretch_47 rfl rfl rfl rfl ?_
        refine r_aload_n (pc := 48) E dX8_stretch_48 rfl rfl ?_
        refine r_iload_n (pc := 49) E dX8_stretch_49 rfl rfl ?_
        refine r_put (pc := 50) (j := 0) E ok1 kc_4 rfl q_273 (r0 (.inl ok1) rfl) rfl rfl dX8_stretch_50 (fun s3 es3 => ?_)
        have h := h s3 es3
        refine r_aload_n (pc := 53) E dX8_stretch_53 rfl rfl ?_
        refine r_iload_n (pc := 54) E dX8_stretch_54 rfl rfl ?_
        refine r_put (pc := 55) (j := 1) E ok1 kc_4 rfl q_275 (r0 (.inl ok1) rfl) rfl rfl dX8_stretch_55 (fun s4 es4 => ?_)
        have h := h s4 es4
        refine r_aload_n (pc := 58) E dX8_stretch_58 rfl rfl ?_
        refine r_dup (pc := 59) E dX8_stretch_59 rfl ?_
        refine r_get (pc := 60) (j := 7) E ok_0 kc_8 rfl q_310 (svI rfl) dX8_stretch_60 ?_
        refine r_iconst (pc := 63) (v := 1) E dX8_stretch_63 (by decide) ?_
        refine r_iadd (pc := 64) E dX8_stretch_64 ?_
        refine r_put (pc := 65) (j := 7) E ok_0 kc_8 rfl q_310 rfl rfl rfl dX8_stretch_65 (fun s5 es5 => ?_)
        have h := h s5 es5
        refine r_aload_n (pc := 68) E dX8_stretch_68 rfl rfl ?_
        refine r_get (pc := 69) (j := 7) E ok_0 kc_8 rfl q_310 (svI rfl) dX8_stretch_69 ?_
        refine r_iconst (pc := 72) (v := 1) E dX8_stretch_72 (by decide) ?_
        refine r_isub (pc := 73) E dX8_stretch_73 ?_
        exact r_iret (pc := 74) E hr dX8_stretch_74 h
      · have h := h.2 c3
        refine r_ldc (pc := 35) (v := (-1000003)) E q_360 dX8_stretch_35 ?_
        exact r_iret (pc := 37) E hr dX8_stretch_37 h
    · have h := h.2 c2
      refine r_ldc (pc := 20) (v := (-1000001)) E q_359 dX8_stretch_20 ?_
      exact r_iret (pc := 22) E hr dX8_stretch_22 h

/-! ChairFront.isStretch -/
def rm_X8_isStretch : Room := { frames := 1, cells := 0, slots := 0, locals := 22 }
theorem ci_X8_isStretch : CI yX8_isStretch RX8 cX8_isStretch 2 (some .boolean) 1 := ⟨q_372, q_1, q_55, q_373, by decide +kernel⟩
def w_X8_isStretch (s0 : ST) (a1 : Int32) (Q : Int32 → ST → Prop) : Prop := w_X8_within s0 a1 0 ((s0 0 7) - 1) (fun r1 s1 => narrow .boolean (.int r1) = .int r1 ∧ Q r1 s1)
set_option maxRecDepth 100000 in
set_option maxHeartbeats 4000000 in
theorem c_X8_isStretch {l : Launch} (X : XT) (s0 : ST) (a1 : Int32) (Q : Int32 → ST → Prop) (h : w_X8_isStretch s0 a1 Q) : MetI l yX8_isStretch (wS yX8_isStretch cX8_isStretch 2 (some .boolean)) rm_X8_isStretch X s0 [.ref (xa X 0), .int a1] Q := by
  refine metG (own := RX8) (k := 0) (lv0 := [some (.ref (xa X 0)), some (.int a1)]) (by decide) rfl rfl rfl ?_
  intro p e s m args below meth c E hr
  refine r_iload_n (pc := 0) E dX8_isStretch_0 rfl rfl ?_
  refine r_iconst (pc := 1) (v := 0) E dX8_isStretch_1 (by decide) ?_
  refine r_aload_n (pc := 2) E dX8_isStretch_2 rfl rfl ?_
  refine r_get (pc := 3) (j := 7) E ok_0 kc_8 rfl q_310 (svI rfl) dX8_isStretch_3 ?_
  refine r_iconst (pc := 6) (v := 1) E dX8_isStretch_6 (by decide) ?_
  refine r_isub (pc := 7) E dX8_isStretch_7 ?_
  refine afterI (pc := 8) E (fun H locs ls hP hS hl => runS (As := [.int a1, .int 0, .int ((s0 0 7) - 1)]) (rest := []) E (c_X8_within X _ _ _ _ _  h) cs_X8_within q_356 rfl rfl rfl rfl dX8_isStretch_8 hP hS hl) (fun r1 s1 h => ?_)
  exact r_zret (pc := 11) E hr dX8_isStretch_11 h.1 h.2

/-! ChairFront.isPlace -/
def rm_X8_isPlace : Room := { frames := 2, cells := 0, slots := 0, locals := 43 }
theorem ci_X8_isPlace : CI yX8_isPlace RX8 cX8_isPlace 2 (some .boolean) 1 := ⟨q_367, q_0, q_55, q_368, by decide +kernel⟩
def w_X8_isPlace (s0 : ST) (a1 : Int32) (Q : Int32 → ST → Prop) : Prop := ((a1 = (-1000000) → (Q 1 s0)) ∧ (¬ (a1 = (-1000000)) → (w_X8_isStretch s0 a1 (fun r1 s1 => ((r1 = 0 → (Q 0 s1)) ∧ (¬ (r1 = 0) → (Q 1 s1)))))))
set_option maxRecDepth 100000 in
set_option maxHeartbeats 4000000 in
theorem c_X8_isPlace {l : Launch} (X : XT) (s0 : ST) (a1 : Int32) (Q : Int32 → ST → Prop) (h : w_X8_isPlace s0 a1 Q) : MetI l yX8_isPlace (wS yX8_isPlace cX8_isPlace 2 (some .boolean)) rm_X8_isPlace X s0 [.ref (xa X 0), .int a1] Q := by
  refine metG (own := RX8) (k := 0) (lv0 := [some (.ref (xa X 0)), some (.int a1)]) (by decide) rfl rfl rfl ?_
  intro p e s m args below meth c E hr
  refine r_iload_n (pc := 0) E dX8_isPlace_0 rfl rfl ?_
  refine r_ldc (pc := 1) (v := (-1000000)) E q_369 dX8_isPlace_1 ?_
  refine r_icmp_eq (pc := 3) (tgt := 14) E dX8_isPlace_3 (by decide) (fun c1 => ?_) (fun c1 => ?_)
  · have h := h.1 c1
    refine r_iconst (pc := 14) (v := 1) E dX8_isPlace_14 (by decide) ?_
    refine r_goto (pc := 15) (tgt := 19) E dX8_isPlace_15 (by decide) ?_
    exact r_zret (pc := 19) E hr dX8_isPlace_19 rfl h
  · have h := h.2 c1
    refine r_aload_n (pc := 6) E dX8_isPlace_6 rfl rfl ?_
    refine r_iload_n (pc := 7) E dX8_isPlace_7 rfl rfl ?_
    refine afterI (pc := 8) E (fun H locs ls hP hS hl => runV (As := [.int a1]) (rest := []) E (c_X8_isStretch X _ _ _  h) ok_0 kc_8.1 ci_X8_isStretch q_370 rfl rfl rfl rfl dX8_isPlace_8 hP hS hl) (fun r1 s1 h => ?_)
    refine r_if_eq (pc := 11) (tgt := 18) E dX8_isPlace_11 (by decide) (fun c2 => ?_) (fun c2 => ?_)
    · have h := h.1 c2
      refine r_iconst (pc := 18) (v := 0) E dX8_isPlace_18 (by decide) ?_
      exact r_zret (pc := 19) E hr dX8_isPlace_19 rfl h
    · have h := h.2 c2
      refine r_iconst (pc := 14) (v := 1) E dX8_isPlace_14 (by decide) ?_
      refine r_goto (pc := 15) (tgt := 19) E dX8_isPlace_15 (by decide) ?_
      exact r_zret (pc := 19) E hr dX8_isPlace_19 rfl h

/-! ChairFront$Stretch.free -/
def rm_X4_free : Room := { frames := 0, cells := 0, slots := 0, locals := 0 }
theorem ci_X4_free : CI yX4_free RX4 cX4_free 1 (some .int) 0 := ⟨q_379, q_380, q_64, q_381, by decide +kernel⟩
def w_X4_free (s0 : ST) (k0 : Nat) (Q : Int32 → ST → Prop) : Prop := Q ((s0 k0 2) - (s0 k0 3)) s0
set_option maxRecDepth 100000 in
set_option maxHeartbeats 4000000 in
theorem c_X4_free {l : Launch} (X : XT) (s0 : ST) (k0 : Nat) (Q : Int32 → ST → Prop) (hk0 : okc 4 k0) (h : w_X4_free s0 k0 Q) : MetI l yX4_free (wS yX4_free cX4_free 1 (some .int)) rm_X4_free X s0 [.ref (xa X k0)] Q := by
  refine metG (own := RX4) (k := 0) (lv0 := [some (.ref (xa X k0))]) (by decide) rfl rfl rfl ?_
  intro p e s m args below meth c E hr
  refine r_aload_n (pc := 0) E dX4_free_0 rfl rfl ?_
  refine r_get (pc := 1) (j := 2) E hk0 kc_4 rfl q_277 (svI (r0 (.inl hk0) rfl)) dX4_free_1 ?_
  refine r_aload_n (pc := 4) E dX4_free_4 rfl rfl ?_
  refine r_get (pc := 5) (j := 3) E hk0 kc_4 rfl q_280 (svI (r0 (.inl hk0) rfl)) dX4_free_5 ?_
  refine r_isub (pc := 8) E dX4_free_8 ?_
  exact r_iret (pc := 9) E hr dX4_free_9 h

/-! ChairFront.chairsToTake -/
def rm_X8_chairsToTake : Room := { frames := 1, cells := 0, slots := 0, locals := 20 }
theorem ci_X8_chairsToTake : CI yX8_chairsToTake RX8 cX8_chairsToTake 2 (some .int) 1 := ⟨q_376, q_2, q_55, q_377, by decide +kernel⟩
def w_X8_chairsToTake (s0 : ST) (a1 : Int32) (Q : Int32 → ST → Prop) : Prop := ((¬ a1 = (-1000000) → (vp_in a1 10 ∧ (∀ k1 : Nat, k1 = 23 + a1.toNatClampNeg → (w_X4_free s0 k1 (fun r1 s1 => Q r1 s1))))) ∧ (a1 = (-1000000) → (Q (s0 0 0) s0)))
set_option maxRecDepth 100000 in
set_option maxHeartbeats 4000000 in
theorem c_X8_chairsToTake {l : Launch} (X : XT) (s0 : ST) (a1 : Int32) (Q : Int32 → ST → Prop) (h : w_X8_chairsToTake s0 a1 Q) : MetI l yX8_chairsToTake (wS yX8_chairsToTake cX8_chairsToTake 2 (some .int)) rm_X8_chairsToTake X s0 [.ref (xa X 0), .int a1] Q := by
  refine metG (own := RX8) (k := 0) (lv0 := [some (.ref (xa X 0)), some (.int a1)]) (by decide) rfl rfl rfl ?_
  intro p e s m args below meth c E hr
  refine r_iload_n (pc := 0) E dX8_chairsToTake_0 rfl rfl ?_
  refine r_ldc (pc := 1) (v := (-1000000)) E q_369 dX8_chairsToTake_1 ?_
  refine r_icmp_ne (pc := 3) (tgt := 13) E dX8_chairsToTake_3 (by decide) (fun c1 => ?_) (fun c1 => ?_)
  · have h := h.1 c1
    refine r_aload_n (pc := 13) E dX8_chairsToTake_13 rfl rfl ?_
    refine r_get (pc := 14) (j := 8) (v := .ref (xa X 1)) E ok_0 kc_8 rfl q_311 rfl dX8_chairsToTake_14 ?_
    refine r_iload_n (pc := 17) E dX8_chairsToTake_17 rfl rfl ?_
    refine r_aldSn (pc := 18) E h.1 dX8_chairsToTake_18 (fun k1 ek1 ok1 => ?_)
    have h := h.2 k1 ek1
    refine afterI (pc := 19) E (fun H locs ls hP hS hl => runV (As := []) (rest := []) E (c_X4_free X _ _ _ ok1 h) ok1 kc_4.1 ci_X4_free q_378 rfl rfl rfl rfl dX8_chairsToTake_19 hP hS hl) (fun r1 s1 h => ?_)
    exact r_iret (pc := 22) E hr dX8_chairsToTake_22 h
  · have h := h.2 c1
    refine r_aload_n (pc := 6) E dX8_chairsToTake_6 rfl rfl ?_
    refine r_get (pc := 7) (j := 0) E ok_0 kc_8 rfl q_303 (svI rfl) dX8_chairsToTake_7 ?_
    refine r_goto (pc := 10) (tgt := 22) E dX8_chairsToTake_10 (by decide) ?_
    exact r_iret (pc := 22) E hr dX8_chairsToTake_22 h

/-! ChairFront.addChairs -/
def rm_X8_addChairs : Room := { frames := 0, cells := 0, slots := 0, locals := 0 }
theorem ci_X8_addChairs : CI yX8_addChairs RX8 cX8_addChairs 3 (some .int) 2 := ⟨q_385, q_3, q_55, q_386, by decide +kernel⟩
def w_X8_addChairs (s0 : ST) (a1 : Int32) (a2 : Int32) (Q : Int32 → ST → Prop) : Prop := ((¬ a1 = (-1000000) → (vp_in a1 10 ∧ (∀ k1 : Nat, k1 = 23 + a1.toNatClampNeg → (∀ s1 : ST, s1 = up s0 k1 2 ((s0 k1 2) + a2) → (vp_in a1 10 ∧ (∀ k2 : Nat, k2 = 23 + a1.toNatClampNeg → (Q (s1 k2 2) s1))))))) ∧ (a1 = (-1000000) → (∀ s2 : ST, s2 = up s0 0 0 ((s0 0 0) + a2) → (Q (s2 0 0) s2))))
set_option maxRecDepth 100000 in
set_option maxHeartbeats 4000000 in
theorem c_X8_addChairs {l : Launch} (X : XT) (s0 : ST) (a1 : Int32) (a2 : Int32) (Q : Int32 → ST → Prop) (h : w_X8_addChairs s0 a1 a2 Q) : MetI l yX8_addChairs (wS yX8_addChairs cX8_addChairs 3 (some .int)) rm_X8_addChairs X s0 [.ref (xa X 0), .int a1, .int a2] Q := by
  refine metG (own := RX8) (k := 0) (lv0 := [some (.ref (xa X 0)), some (.int a1), some (.int a2)]) (by decide) rfl rfl rfl ?_
  intro p e s m args below meth c E hr
  refine r_iload_n (pc := 0) E dX8_addChairs_0 rfl rfl ?_
  refine r_ldc (pc := 1) (v := (-1000000)) E q_369 dX8_addChairs_1 ?_
  refine r_icmp_ne (pc := 3) (tgt := 21) E dX8_addChairs_3 (by decide) (fun c1 => ?_) (fun c1 => ?_)
  · have h := h.1 c1
    refine r_aload_n (pc := 21) E dX8_addChairs_21 rfl rfl ?_
    refine r_get (pc := 22) (j := 8) (v := .ref (xa X 1)) E ok_0 kc_8 rfl q_311 rfl dX8_addChairs_22 ?_
    refine r_iload_n (pc := 25) E dX8_addChairs_25 rfl rfl ?_
    refine r_aldSn (pc := 26) E h.1 dX8_addChairs_26 (fun k1 ek1 ok1 => ?_)
    have h := h.2 k1 ek1
    refine r_dup (pc := 27) E dX8_addChairs_27 rfl ?_
    refine r_get (pc := 28) (j := 2) E ok1 kc_4 rfl q_279 (svI (r0 (.inl ok1) rfl)) dX8_addChairs_28 ?_
    refine r_iload_n (pc := 31) E dX8_addChairs_31 rfl rfl ?_
    refine r_iadd (pc := 32) E dX8_addChairs_32 ?_
    refine r_put (pc := 33) (j := 2) E ok1 kc_4 rfl q_279 (r0 (.inl ok1) rfl) rfl rfl dX8_addChairs_33 (fun s1 es1 => ?_)
    have h := h s1 es1
    refine r_aload_n (pc := 36) E dX8_addChairs_36 rfl rfl ?_
    refine r_get (pc := 37) (j := 8) (v := .ref (xa X 1)) E ok_0 kc_8 rfl q_311 rfl dX8_addChairs_37 ?_
    refine r_iload_n (pc := 40) E dX8_addChairs_40 rfl rfl ?_
    refine r_aldSn (pc := 41) E h.1 dX8_addChairs_41 (fun k2 ek2 ok2 => ?_)
    have h := h.2 k2 ek2
    refine r_get (pc := 42) (j := 2) E ok2 kc_4 rfl q_279 (svI (r0 (.inl ok2) rfl)) dX8_addChairs_42 ?_
    exact r_iret (pc := 45) E hr dX8_addChairs_45 h
  · have h := h.2 c1
    refine r_aload_n (pc := 6) E dX8_addChairs_6 rfl rfl ?_
    refine r_dup (pc := 7) E dX8_addChairs_7 rfl ?_
    refine r_get (pc := 8) (j := 0) E ok_0 kc_8 rfl q_303 (svI rfl) dX8_addChairs_8 ?_
    refine r_iload_n (pc := 11) E dX8_addChairs_11 rfl rfl ?_
    refine r_iadd (pc := 12) E dX8_addChairs_12 ?_
    refine r_put (pc := 13) (j := 0) E ok_0 kc_8 rfl q_303 rfl rfl rfl dX8_addChairs_13 (fun s2 es2 => ?_)
    have h := h s2 es2
    refine r_aload_n (pc := 16) E dX8_addChairs_16 rfl rfl ?_
    refine r_get (pc := 17) (j := 0) E ok_0 kc_8 rfl q_303 (svI rfl) dX8_addChairs_17 ?_
    exact r_iret (pc := 20) E hr dX8_addChairs_20 h

/-! ChairFront.carry -/
def rm_X8_carry : Room := { frames := 3, cells := 0, slots := 0, locals := 64 }
theorem ci_X8_carry : CI yX8_carry RX8 cX8_carry 4 (some .int) 3 := ⟨q_362, q_363, q_55, q_364, by decide +kernel⟩
def w_X8_carry (s0 : ST) (a1 : Int32) (a2 : Int32) (a3 : Int32) (Q : Int32 → ST → Prop) : Prop := w_X8_isPlace s0 a1 (fun r1 s1 => ((r1 = 0 → (Q (-1000001) s1)) ∧ (¬ (r1 = 0) → (w_X8_isPlace s1 a2 (fun r2 s2 => ((r2 = 0 → (Q (-1000001) s2)) ∧ (¬ (r2 = 0) → (((a1 = a2 → (Q (-1000001) s2)) ∧ (¬ (a1 = a2) → (w_X8_within s2 a3 0 9000 (fun r3 s3 => ((¬ r3 = 0 → (w_X8_chairsToTake s3 a1 (fun r4 s4 => ((a3 ≤ r4 → (w_X8_addChairs s4 a1 (-a3) (fun r5 s5 => w_X8_addChairs s5 a2 a3 (fun r6 s6 => Q r6 s6)))) ∧ (¬ (a3 ≤ r4) → (Q (-1000002) s4)))))) ∧ (r3 = 0 → (Q (-1000001) s3)))))))))))))))
set_option maxRecDepth 100000 in
set_option maxHeartbeats 4000000 in
theorem c_X8_carry {l : Launch} (X : XT) (s0 : ST) (a1 : Int32) (a2 : Int32) (a3 : Int32) (Q : Int32 → ST → Prop) (h : w_X8_carry s0 a1 a2 a3 Q) : MetI l yX8_carry (wS yX8_carry cX8_carry 4 (some .int)) rm_X8_carry X s0 [.ref (xa X 0), .int a1, .int a2, .int a3] Q := by
  refine metG (own := RX8) (k := 0) (lv0 := [some (.ref (xa X 0)), some (.int a1), some (.int a2), some (.int a3)]) (by decide) rfl rfl rfl ?_
  intro p e s m args below meth c E hr
  refine r_aload_n (pc := 0) E dX8_carry_0 rfl rfl ?_
  refine r_iload_n (pc := 1) E dX8_carry_1 rfl rfl ?_
  refine afterI (pc := 2) E (fun H locs ls hP hS hl => runV (As := [.int a1]) (rest := []) E (c_X8_isPlace X _ _ _  h) ok_0 kc_8.1 ci_X8_isPlace q_365 rfl rfl rfl rfl dX8_carry_2 hP hS hl) (fun r1 s1 h => ?_)
  refine r_if_eq (pc := 5) (tgt := 32) E dX8_carry_5 (by decide) (fun c1 => ?_) (fun c1 => ?_)
  · have h := h.1 c1
    refine r_ldc (pc := 32) (v := (-1000001)) E q_359 dX8_carry_32 ?_
    exact r_iret (pc := 34) E hr dX8_carry_34 h
  · have h := h.2 c1
    refine r_aload_n (pc := 8) E dX8_carry_8 rfl rfl ?_
    refine r_iload_n (pc := 9) E dX8_carry_9 rfl rfl ?_
    refine afterI (pc := 10) E (fun H locs ls hP hS hl => runV (As := [.int a2]) (rest := []) E (c_X8_isPlace X _ _ _  h) ok_0 kc_8.1 ci_X8_isPlace q_365 rfl rfl rfl rfl dX8_carry_10 hP hS hl) (fun r2 s2 h => ?_)
    refine r_if_eq (pc := 13) (tgt := 32) E dX8_carry_13 (by decide) (fun c2 => ?_) (fun c2 => ?_)
    · have h := h.1 c2
      refine r_ldc (pc := 32) (v := (-1000001)) E q_359 dX8_carry_32 ?_
      exact r_iret (pc := 34) E hr dX8_carry_34 h
    · have h := h.2 c2
      refine r_iload_n (pc := 16) E dX8_carry_16 rfl rfl ?_
      refine r_iload_n (pc := 17) E dX8_carry_17 rfl rfl ?_
      refine r_icmp_eq (pc := 18) (tgt := 32) E dX8_carry_18 (by decide) (fun c3 => ?_) (fun c3 => ?_)
      · have h := h.1 c3
        refine r_ldc (pc := 32) (v := (-1000001)) E q_359 dX8_carry_32 ?_
        exact r_iret (pc := 34) E hr dX8_carry_34 h
      · have h := h.2 c3
        refine r_iload_n (pc := 21) E dX8_carry_21 rfl rfl ?_
        refine r_iconst (pc := 22) (v := 0) E dX8_carry_22 (by decide) ?_
        refine r_sipush (pc := 23) (v := 9000) E dX8_carry_23 (by decide) ?_
        refine afterI (pc := 26) E (fun H locs ls hP hS hl => runS (As := [.int a3, .int 0, .int 9000]) (rest := []) E (c_X8_within X _ _ _ _ _  h) cs_X8_within q_356 rfl rfl rfl rfl dX8_carry_26 hP hS hl) (fun r3 s3 h => ?_)
        refine r_if_ne (pc := 29) (tgt := 35) E dX8_carry_29 (by decide) (fun c4 => ?_) (fun c4 => ?_)
        · have h := h.1 c4
          refine r_aload_n (pc := 35) E dX8_carry_35 rfl rfl ?_
          refine r_iload_n (pc := 36) E dX8_carry_36 rfl rfl ?_
          refine afterI (pc := 37) E (fun H locs ls hP hS hl => runV (As := [.int a1]) (rest := []) E (c_X8_chairsToTake X _ _ _  h) ok_0 kc_8.1 ci_X8_chairsToTake q_374 rfl rfl rfl rfl dX8_carry_37 hP hS hl) (fun r4 s4 h => ?_)
          refine r_iload_n (pc := 40) E dX8_carry_40 rfl rfl ?_
          refine r_icmp_ge (pc := 41) (tgt := 47) E dX8_carry_41 (by decide) (fun c5 => ?_) (fun c5 => ?_)
          · have h := h.1 c5
            refine r_aload_n (pc := 47) E dX8_carry_47 rfl rfl ?_
            refine r_iload_n (pc := 48) E dX8_carry_48 rfl rfl ?_
            refine r_iload_n (pc := 49) E dX8_carry_49 rfl rfl ?_
            refine r_ineg (pc := 50) E dX8_carry_50 ?_
            refine afterI (pc := 51) E (fun H locs ls hP hS hl => runV (As := [.int a1, .int (-a3)]) (rest := []) E (c_X8_addChairs X _ _ _ _  h) ok_0 kc_8.1 ci_X8_addChairs q_383 rfl rfl rfl rfl dX8_carry_51 hP hS hl) (fun r5 s5 h => ?_)
            refine r_pop (pc := 54) E dX8_carry_54 rfl ?_
            refine r_aload_n (pc := 55) E dX8_carry_55 rfl rfl ?_
            refine r_iload_n (pc := 56) E dX8_carry_56 rfl rfl ?_
            refine r_iload_n (pc := 57) E dX8_carry_57 rfl rfl ?_
            refine afterI (pc := 58) E (fun H locs ls hP hS hl => runV (As := [.int a2, .int a3]) (rest := []) E (c_X8_addChairs X _ _ _ _  h) ok_0 kc_8.1 ci_X8_addChairs q_383 rfl rfl rfl rfl dX8_carry_58 hP hS hl) (fun r6 s6 h => ?_)
            exact r_iret (pc := 61) E hr dX8_carry_61 h
          · have h := h.2 c5
            refine r_ldc (pc := 44) (v := (-1000002)) E q_382 dX8_carry_44 ?_
            exact r_iret (pc := 46) E hr dX8_carry_46 h
        · have h := h.2 c4
          refine r_ldc (pc := 32) (v := (-1000001)) E q_359 dX8_carry_32 ?_
          exact r_iret (pc := 34) E hr dX8_carry_34 h

/-! ChairFront.told -/
def rm_X8_told : Room := { frames := 2, cells := 0, slots := 0, locals := 43 }
theorem ci_X8_told : CI yX8_told RX8 cX8_told 4 (some .int) 2 := ⟨q_388, q_389, q_55, q_390, by decide +kernel⟩
def w_X8_told (s0 : ST) (a1 : Int32) (a2 : Int32) (Q : Int32 → ST → Prop) : Prop := w_X8_isStretch s0 a1 (fun r1 s1 => ((¬ r1 = 0 → (vp_in a1 10 ∧ (∀ k1 : Nat, k1 = 23 + a1.toNatClampNeg → (((a2 = 0 → (Q (s1 k1 0) s1)) ∧ (¬ a2 = 0 → ((a2 = 1 → (Q (s1 k1 1) s1)) ∧ (¬ a2 = 1 → ((a2 = 2 → (Q (s1 k1 2) s1)) ∧ (¬ a2 = 2 → ((a2 = 3 → (w_X4_free s1 k1 (fun r2 s2 => Q r2 s2))) ∧ (¬ a2 = 3 → ((a2 = 4 → (Q (s1 k1 4) s1)) ∧ (¬ a2 = 4 → ((a2 = 5 → (Q (s1 k1 5) s1)) ∧ (¬ a2 = 5 → (Q (-1000001) s1))))))))))))))))) ∧ (r1 = 0 → (Q (-1000001) s1))))
set_option maxRecDepth 100000 in
set_option maxHeartbeats 4000000 in
theorem c_X8_told {l : Launch} (X : XT) (s0 : ST) (a1 : Int32) (a2 : Int32) (Q : Int32 → ST → Prop) (h : w_X8_told s0 a1 a2 Q) : MetI l yX8_told (wS yX8_told cX8_told 4 (some .int)) rm_X8_told X s0 [.ref (xa X 0), .int a1, .int a2] Q := by
  refine metG (own := RX8) (k := 1) (lv0 := [some (.ref (xa X 0)), some (.int a1), some (.int a2), none]) (by decide) rfl rfl rfl ?_
  intro p e s m args below meth c E hr
  refine r_aload_n (pc := 0) E dX8_told_0 rfl rfl ?_
  refine r_iload_n (pc := 1) E dX8_told_1 rfl rfl ?_
  refine afterI (pc := 2) E (fun H locs ls hP hS hl => runV (As := [.int a1]) (rest := []) E (c_X8_isStretch X _ _ _  h) ok_0 kc_8.1 ci_X8_isStretch q_370 rfl rfl rfl rfl dX8_told_2 hP hS hl) (fun r1 s1 h => ?_)
  refine r_if_ne (pc := 5) (tgt := 11) E dX8_told_5 (by decide) (fun c1 => ?_) (fun c1 => ?_)
  · have h := h.1 c1
    refine r_aload_n (pc := 11) E dX8_told_11 rfl rfl ?_
    refine r_get (pc := 12) (j := 8) (v := .ref (xa X 1)) E ok_0 kc_8 rfl q_311 rfl dX8_told_12 ?_
    refine r_iload_n (pc := 15) E dX8_told_15 rfl rfl ?_
    refine r_aldSn (pc := 16) E h.1 dX8_told_16 (fun k1 ek1 ok1 => ?_)
    have h := h.2 k1 ek1
    refine r_astore_n (pc := 17) (lv' := [some (.ref (xa X 0)), some (.int a1), some (.int a2), some (.ref (xa X k1))]) E dX8_told_17 rfl rfl rfl rfl ?_
    refine r_iload_n (pc := 18) E dX8_told_18 rfl rfl ?_
    by_cases c2 : a2 = 0
    · have h := h.1 c2
      refine r_tabIn (pc := 19) (tgt := 56) (off := 37) (v := 0) E c2 dX8_told_19 (by decide) (by decide) (by decide) (by decide) ?_
      refine r_aload_n (pc := 56) E dX8_told_56 rfl rfl ?_
      refine r_get (pc := 57) (j := 0) E ok1 kc_4 rfl q_273 (svI (r0 (.inl ok1) rfl)) dX8_told_57 ?_
      exact r_iret (pc := 60) E hr dX8_told_60 h
    have h := h.2 c2
    by_cases c3 : a2 = 1
    · have h := h.1 c3
      refine r_tabIn (pc := 19) (tgt := 61) (off := 42) (v := 1) E c3 dX8_told_19 (by decide) (by decide) (by decide) (by decide) ?_
      refine r_aload_n (pc := 61) E dX8_told_61 rfl rfl ?_
      refine r_get (pc := 62) (j := 1) E ok1 kc_4 rfl q_275 (svI (r0 (.inl ok1) rfl)) dX8_told_62 ?_
      exact r_iret (pc := 65) E hr dX8_told_65 h
    have h := h.2 c3
    by_cases c4 : a2 = 2
    · have h := h.1 c4
      refine r_tabIn (pc := 19) (tgt := 66) (off := 47) (v := 2) E c4 dX8_told_19 (by decide) (by decide) (by decide) (by decide) ?_
      refine r_aload_n (pc := 66) E dX8_told_66 rfl rfl ?_
      refine r_get (pc := 67) (j := 2) E ok1 kc_4 rfl q_279 (svI (r0 (.inl ok1) rfl)) dX8_told_67 ?_
      exact r_iret (pc := 70) E hr dX8_told_70 h
    have h := h.2 c4
    by_cases c5 : a2 = 3
    · have h := h.1 c5
      refine r_tabIn (pc := 19) (tgt := 71) (off := 52) (v := 3) E c5 dX8_told_19 (by decide) (by decide) (by decide) (by decide) ?_
      refine r_aload_n (pc := 71) E dX8_told_71 rfl rfl ?_
      refine afterI (pc := 72) E (fun H locs ls hP hS hl => runV (As := []) (rest := []) E (c_X4_free X _ _ _ ok1 h) ok1 kc_4.1 ci_X4_free q_378 rfl rfl rfl rfl dX8_told_72 hP hS hl) (fun r2 s2 h => ?_)
      exact r_iret (pc := 75) E hr dX8_told_75 h
    have h := h.2 c5
    by_cases c6 : a2 = 4
    · have h := h.1 c6
      refine r_tabIn (pc := 19) (tgt := 76) (off := 57) (v := 4) E c6 dX8_told_19 (by decide) (by decide) (by decide) (by decide) ?_
      refine r_aload_n (pc := 76) E dX8_told_76 rfl rfl ?_
      refine r_get (pc := 77) (j := 4) E ok1 kc_4 rfl q_282 (svI (r0 (.inl ok1) rfl)) dX8_told_77 ?_
      exact r_iret (pc := 80) E hr dX8_told_80 h
    have h := h.2 c6
    by_cases c7 : a2 = 5
    · have h := h.1 c7
      refine r_tabIn (pc := 19) (tgt := 81) (off := 62) (v := 5) E c7 dX8_told_19 (by decide) (by decide) (by decide) (by decide) ?_
      refine r_aload_n (pc := 81) E dX8_told_81 rfl rfl ?_
      refine r_get (pc := 82) (j := 5) E ok1 kc_4 rfl q_284 (svI (r0 (.inl ok1) rfl)) dX8_told_82 ?_
      exact r_iret (pc := 85) E hr dX8_told_85 h
    have h := h.2 c7
    refine r_tabOut (pc := 19) (tgt := 86) E 0 6 (by decide) (fun j hj => match j, hj with | 0, _ => c2 | 1, _ => c3 | 2, _ => c4 | 3, _ => c5 | 4, _ => c6 | 5, _ => c7 | j + 6, hj => absurd hj (by omega)) dX8_told_19 (by decide) (by decide) (by decide) ?_
    refine r_ldc (pc := 86) (v := (-1000001)) E q_359 dX8_told_86 ?_
    exact r_iret (pc := 88) E hr dX8_told_88 h
  · have h := h.2 c1
    refine r_ldc (pc := 8) (v := (-1000001)) E q_359 dX8_told_8 ?_
    exact r_iret (pc := 10) E hr dX8_told_10 h

/-! ChairFront.rule -/
def rm_X8_rule : Room := { frames := 1, cells := 0, slots := 0, locals := 22 }
theorem ci_X8_rule : CI yX8_rule RX8 cX8_rule 4 (some .int) 2 := ⟨q_392, q_393, q_55, q_394, by decide +kernel⟩
def w_X8_rule (s0 : ST) (a1 : Int32) (a2 : Int32) (Q : Int32 → ST → Prop) : Prop := ((¬ a1 = 0 → (((¬ a1 = 1 → (Q (-1000001) s0)) ∧ (a1 = 1 → (w_X8_within s0 a2 0 100 (fun r1 s1 => ((r1 = 0 → (Q (-1000001) s1)) ∧ (¬ (r1 = 0) → (∀ x1 : Int32, x1 = (s1 0 4) → (∀ s2 : ST, s2 = up s1 0 4 a2 → (Q x1 s2))))))))))) ∧ (a1 = 0 → (w_X8_within s0 a2 1 100 (fun r2 s3 => ((r2 = 0 → (((¬ a1 = 1 → (Q (-1000001) s3)) ∧ (a1 = 1 → (w_X8_within s3 a2 0 100 (fun r3 s4 => ((r3 = 0 → (Q (-1000001) s4)) ∧ (¬ (r3 = 0) → (∀ x2 : Int32, x2 = (s4 0 4) → (∀ s5 : ST, s5 = up s4 0 4 a2 → (Q x2 s5))))))))))) ∧ (¬ (r2 = 0) → (∀ x3 : Int32, x3 = (s3 0 3) → (∀ s6 : ST, s6 = up s3 0 3 a2 → (Q x3 s6)))))))))
set_option maxRecDepth 100000 in
set_option maxHeartbeats 4000000 in
theorem c_X8_rule {l : Launch} (X : XT) (s0 : ST) (a1 : Int32) (a2 : Int32) (Q : Int32 → ST → Prop) (h : w_X8_rule s0 a1 a2 Q) : MetI l yX8_rule (wS yX8_rule cX8_rule 4 (some .int)) rm_X8_rule X s0 [.ref (xa X 0), .int a1, .int a2] Q := by
  refine metG (own := RX8) (k := 1) (lv0 := [some (.ref (xa X 0)), some (.int a1), some (.int a2), none]) (by decide) rfl rfl rfl ?_
  intro p e s m args below meth c E hr
  refine r_iload_n (pc := 0) E dX8_rule_0 rfl rfl ?_
  refine r_if_ne (pc := 1) (tgt := 26) E dX8_rule_1 (by decide) (fun c1 => ?_) (fun c1 => ?_)
  · have h := h.1 c1
    refine r_iload_n (pc := 26) E dX8_rule_26 rfl rfl ?_
    refine r_iconst (pc := 27) (v := 1) E dX8_rule_27 (by decide) ?_
    refine r_icmp_ne (pc := 28) (tgt := 53) E dX8_rule_28 (by decide) (fun c2 => ?_) (fun c2 => ?_)
    · have h := h.1 c2
      refine r_ldc (pc := 53) (v := (-1000001)) E q_359 dX8_rule_53 ?_
      exact r_iret (pc := 55) E hr dX8_rule_55 h
    · have h := h.2 c2
      refine r_iload_n (pc := 31) E dX8_rule_31 rfl rfl ?_
      refine r_iconst (pc := 32) (v := 0) E dX8_rule_32 (by decide) ?_
      refine r_bipush (pc := 33) (v := 100) E dX8_rule_33 (by decide) ?_
      refine afterI (pc := 35) E (fun H locs ls hP hS hl => runS (As := [.int a2, .int 0, .int 100]) (rest := []) E (c_X8_within X _ _ _ _ _  h) cs_X8_within q_356 rfl rfl rfl rfl dX8_rule_35 hP hS hl) (fun r1 s1 h => ?_)
      refine r_if_eq (pc := 38) (tgt := 53) E dX8_rule_38 (by decide) (fun c3 => ?_) (fun c3 => ?_)
      · have h := h.1 c3
        refine r_ldc (pc := 53) (v := (-1000001)) E q_359 dX8_rule_53 ?_
        exact r_iret (pc := 55) E hr dX8_rule_55 h
      · have h := h.2 c3
        refine r_aload_n (pc := 41) E dX8_rule_41 rfl rfl ?_
        refine r_get (pc := 42) (j := 4) E ok_0 kc_8 rfl q_307 (svI rfl) dX8_rule_42 ?_
        refine r_topi (fun x1 ex1 => ?_)
        have h := h x1 ex1
        refine r_istore_n (pc := 45) (lv' := [some (.ref (xa X 0)), some (.int a1), some (.int a2), some (.int x1)]) E dX8_rule_45 rfl rfl rfl rfl ?_
        refine r_aload_n (pc := 46) E dX8_rule_46 rfl rfl ?_
        refine r_iload_n (pc := 47) E dX8_rule_47 rfl rfl ?_
        refine r_put (pc := 48) (j := 4) E ok_0 kc_8 rfl q_307 rfl rfl rfl dX8_rule_48 (fun s2 es2 => ?_)
        have h := h s2 es2
        refine r_iload_n (pc := 51) E dX8_rule_51 rfl rfl ?_
        exact r_iret (pc := 52) E hr dX8_rule_52 h
  · have h := h.2 c1
    refine r_iload_n (pc := 4) E dX8_rule_4 rfl rfl ?_
    refine r_iconst (pc := 5) (v := 1) E dX8_rule_5 (by decide) ?_
    refine r_bipush (pc := 6) (v := 100) E dX8_rule_6 (by decide) ?_
    refine afterI (pc := 8) E (fun H locs ls hP hS hl => runS (As := [.int a2, .int 1, .int 100]) (rest := []) E (c_X8_within X _ _ _ _ _  h) cs_X8_within q_356 rfl rfl rfl rfl dX8_rule_8 hP hS hl) (fun r2 s3 h => ?_)
    refine r_if_eq (pc := 11) (tgt := 26) E dX8_rule_11 (by decide) (fun c4 => ?_) (fun c4 => ?_)
    · have h := h.1 c4
      refine r_iload_n (pc := 26) E dX8_rule_26 rfl rfl ?_
      refine r_iconst (pc := 27) (v := 1) E dX8_rule_27 (by decide) ?_
      refine r_icmp_ne (pc := 28) (tgt := 53) E dX8_rule_28 (by decide) (fun c5 => ?_) (fun c5 => ?_)
      · have h := h.1 c5
        refine r_ldc (pc := 53) (v := (-1000001)) E q_359 dX8_rule_53 ?_
        exact r_iret (pc := 55) E hr dX8_rule_55 h
      · have h := h.2 c5
        refine r_iload_n (pc := 31) E dX8_rule_31 rfl rfl ?_
        refine r_iconst (pc := 32) (v := 0) E dX8_rule_32 (by decide) ?_
        refine r_bipush (pc := 33) (v := 100) E dX8_rule_33 (by decide) ?_
        refine afterI (pc := 35) E (fun H locs ls hP hS hl => runS (As := [.int a2, .int 0, .int 100]) (rest := []) E (c_X8_within X _ _ _ _ _  h) cs_X8_within q_356 rfl rfl rfl rfl dX8_rule_35 hP hS hl) (fun r3 s4 h => ?_)
        refine r_if_eq (pc := 38) (tgt := 53) E dX8_rule_38 (by decide) (fun c6 => ?_) (fun c6 => ?_)
        · have h := h.1 c6
          refine r_ldc (pc := 53) (v := (-1000001)) E q_359 dX8_rule_53 ?_
          exact r_iret (pc := 55) E hr dX8_rule_55 h
        · have h := h.2 c6
          refine r_aload_n (pc := 41) E dX8_rule_41 rfl rfl ?_
          refine r_get (pc := 42) (j := 4) E ok_0 kc_8 rfl q_307 (svI rfl) dX8_rule_42 ?_
          refine r_topi (fun x2 ex2 => ?_)
          have h := h x2 ex2
          refine r_istore_n (pc := 45) (lv' := [some (.ref (xa X 0)), some (.int a1), some (.int a2), some (.int x2)]) E dX8_rule_45 rfl rfl rfl rfl ?_
          refine r_aload_n (pc := 46) E dX8_rule_46 rfl rfl ?_
          refine r_iload_n (pc := 47) E dX8_rule_47 rfl rfl ?_
          refine r_put (pc := 48) (j := 4) E ok_0 kc_8 rfl q_307 rfl rfl rfl dX8_rule_48 (fun s5 es5 => ?_)
          have h := h s5 es5
          refine r_iload_n (pc := 51) E dX8_rule_51 rfl rfl ?_
          exact r_iret (pc := 52) E hr dX8_rule_52 h
    · have h := h.2 c4
      refine r_aload_n (pc := 14) E dX8_rule_14 rfl rfl ?_
      refine r_get (pc := 15) (j := 3) E ok_0 kc_8 rfl q_306 (svI rfl) dX8_rule_15 ?_
      refine r_topi (fun x3 ex3 => ?_)
      have h := h x3 ex3
      refine r_istore_n (pc := 18) (lv' := [some (.ref (xa X 0)), some (.int a1), some (.int a2), some (.int x3)]) E dX8_rule_18 rfl rfl rfl rfl ?_
      refine r_aload_n (pc := 19) E dX8_rule_19 rfl rfl ?_
      refine r_iload_n (pc := 20) E dX8_rule_20 rfl rfl ?_
      refine r_put (pc := 21) (j := 3) E ok_0 kc_8 rfl q_306 rfl rfl rfl dX8_rule_21 (fun s6 es6 => ?_)
      have h := h s6 es6
      refine r_iload_n (pc := 24) E dX8_rule_24 rfl rfl ?_
      exact r_iret (pc := 25) E hr dX8_rule_25 h

/-! ChairFront.mend -/
def rm_X8_mend : Room := { frames := 1, cells := 0, slots := 0, locals := 22 }
theorem ci_X8_mend : CI yX8_mend RX8 cX8_mend 2 (some .int) 1 := ⟨q_396, q_397, q_55, q_398, by decide +kernel⟩
def w_X8_mend (s0 : ST) (a1 : Int32) (Q : Int32 → ST → Prop) : Prop := w_X8_within s0 a1 0 9000 (fun r1 s1 => ((¬ r1 = 0 → (((a1 ≤ (s1 0 2) → (∀ s2 : ST, s2 = up s1 0 2 ((s1 0 2) - a1) → (∀ s3 : ST, s3 = up s2 0 0 ((s2 0 0) + a1) → (Q (s3 0 2) s3)))) ∧ (¬ (a1 ≤ (s1 0 2)) → (Q (-1000002) s1))))) ∧ (r1 = 0 → (Q (-1000001) s1))))
set_option maxRecDepth 100000 in
set_option maxHeartbeats 4000000 in
theorem c_X8_mend {l : Launch} (X : XT) (s0 : ST) (a1 : Int32) (Q : Int32 → ST → Prop) (h : w_X8_mend s0 a1 Q) : MetI l yX8_mend (wS yX8_mend cX8_mend 2 (some .int)) rm_X8_mend X s0 [.ref (xa X 0), .int a1] Q := by
  refine metG (own := RX8) (k := 0) (lv0 := [some (.ref (xa X 0)), some (.int a1)]) (by decide) rfl rfl rfl ?_
  intro p e s m args below meth c E hr
  refine r_iload_n (pc := 0) E dX8_mend_0 rfl rfl ?_
  refine r_iconst (pc := 1) (v := 0) E dX8_mend_1 (by decide) ?_
  refine r_sipush (pc := 2) (v := 9000) E dX8_mend_2 (by decide) ?_
  refine afterI (pc := 5) E (fun H locs ls hP hS hl => runS (As := [.int a1, .int 0, .int 9000]) (rest := []) E (c_X8_within X _ _ _ _ _  h) cs_X8_within q_356 rfl rfl rfl rfl dX8_mend_5 hP hS hl) (fun r1 s1 h => ?_)
  refine r_if_ne (pc := 8) (tgt := 14) E dX8_mend_8 (by decide) (fun c1 => ?_) (fun c1 => ?_)
  · have h := h.1 c1
    refine r_aload_n (pc := 14) E dX8_mend_14 rfl rfl ?_
    refine r_get (pc := 15) (j := 2) E ok_0 kc_8 rfl q_305 (svI rfl) dX8_mend_15 ?_
    refine r_iload_n (pc := 18) E dX8_mend_18 rfl rfl ?_
    refine r_icmp_ge (pc := 19) (tgt := 25) E dX8_mend_19 (by decide) (fun c2 => ?_) (fun c2 => ?_)
    · have h := h.1 c2
      refine r_aload_n (pc := 25) E dX8_mend_25 rfl rfl ?_
      refine r_dup (pc := 26) E dX8_mend_26 rfl ?_
      refine r_get (pc := 27) (j := 2) E ok_0 kc_8 rfl q_305 (svI rfl) dX8_mend_27 ?_
      refine r_iload_n (pc := 30) E dX8_mend_30 rfl rfl ?_
      refine r_isub (pc := 31) E dX8_mend_31 ?_
      refine r_put (pc := 32) (j := 2) E ok_0 kc_8 rfl q_305 rfl rfl rfl dX8_mend_32 (fun s2 es2 => ?_)
      have h := h s2 es2
      refine r_aload_n (pc := 35) E dX8_mend_35 rfl rfl ?_
      refine r_dup (pc := 36) E dX8_mend_36 rfl ?_
      refine r_get (pc := 37) (j := 0) E ok_0 kc_8 rfl q_303 (svI rfl) dX8_mend_37 ?_
      refine r_iload_n (pc := 40) E dX8_mend_40 rfl rfl ?_
      refine r_iadd (pc := 41) E dX8_mend_41 ?_
      refine r_put (pc := 42) (j := 0) E ok_0 kc_8 rfl q_303 rfl rfl rfl dX8_mend_42 (fun s3 es3 => ?_)
      have h := h s3 es3
      refine r_aload_n (pc := 45) E dX8_mend_45 rfl rfl ?_
      refine r_get (pc := 46) (j := 2) E ok_0 kc_8 rfl q_305 (svI rfl) dX8_mend_46 ?_
      exact r_iret (pc := 49) E hr dX8_mend_49 h
    · have h := h.2 c2
      refine r_ldc (pc := 22) (v := (-1000002)) E q_382 dX8_mend_22 ?_
      exact r_iret (pc := 24) E hr dX8_mend_24 h
  · have h := h.2 c1
    refine r_ldc (pc := 11) (v := (-1000001)) E q_359 dX8_mend_11 ?_
    exact r_iret (pc := 13) E hr dX8_mend_13 h

/-! ChairFront$TicketBook.isFull -/
def rm_X7_isFull : Room := { frames := 0, cells := 0, slots := 0, locals := 0 }
theorem ci_X7_isFull : CI yX7_isFull RX7 cX7_isFull 1 (some .boolean) 0 := ⟨q_404, q_405, q_56, q_406, by decide +kernel⟩
def w_X7_isFull (s0 : ST) (Q : Int32 → ST → Prop) : Prop := (((s0 2 1) < 30 → (Q 0 s0)) ∧ (¬ ((s0 2 1) < 30) → (Q 1 s0)))
set_option maxRecDepth 100000 in
set_option maxHeartbeats 4000000 in
theorem c_X7_isFull {l : Launch} (X : XT) (s0 : ST) (Q : Int32 → ST → Prop) (h : w_X7_isFull s0 Q) : MetI l yX7_isFull (wS yX7_isFull cX7_isFull 1 (some .boolean)) rm_X7_isFull X s0 [.ref (xa X 2)] Q := by
  refine metG (own := RX7) (k := 0) (lv0 := [some (.ref (xa X 2))]) (by decide) rfl rfl rfl ?_
  intro p e s m args below meth c E hr
  refine r_aload_n (pc := 0) E dX7_isFull_0 rfl rfl ?_
  refine r_get (pc := 1) (j := 1) E ok_2 kc_7 rfl q_121 (svI rfl) dX7_isFull_1 ?_
  refine r_aload_n (pc := 4) E dX7_isFull_4 rfl rfl ?_
  refine r_get (pc := 5) (j := 0) (v := .ref (xa X 3)) E ok_2 kc_7 rfl q_119 rfl dX7_isFull_5 ?_
  refine r_alen (pc := 8) (v := 30) E (by decide) rfl rfl rfl dX7_isFull_8 ?_
  refine r_icmp_lt (pc := 9) (tgt := 16) E dX7_isFull_9 (by decide) (fun c1 => ?_) (fun c1 => ?_)
  · have h := h.1 c1
    refine r_iconst (pc := 16) (v := 0) E dX7_isFull_16 (by decide) ?_
    exact r_zret (pc := 17) E hr dX7_isFull_17 rfl h
  · have h := h.2 c1
    refine r_iconst (pc := 12) (v := 1) E dX7_isFull_12 (by decide) ?_
    refine r_goto (pc := 13) (tgt := 17) E dX7_isFull_13 (by decide) ?_
    exact r_zret (pc := 17) E hr dX7_isFull_17 rfl h

/-! ChairFront$TicketBook.open -/
def rm_X7_open : Room := { frames := 0, cells := 0, slots := 0, locals := 0 }
theorem ci_X7_open : CI yX7_open RX7 cX7_open 2 (some (.object "ChairFront$Ticket")) 0 := ⟨q_408, q_409, q_56, q_410, by decide +kernel⟩
def w_X7_open (s0 : ST) (Q : Option Nat → ST → Prop) : Prop := vp_in (s0 2 1) 30 ∧ ((s0 3 (s0 2 1).toNatClampNeg).toNatClampNeg < 30 ∧ (∀ k1 : Nat, k1 = 33 + (s0 3 (s0 2 1).toNatClampNeg).toNatClampNeg → (∀ s1 : ST, s1 = up s0 k1 0 (s0 2 2) → (∀ s2 : ST, s2 = up s1 2 1 ((s1 2 1) + 1) → (∀ s3 : ST, s3 = up s2 2 2 ((s2 2 2) + 1) → (Q (some k1) s3))))))
set_option maxRecDepth 100000 in
set_option maxHeartbeats 4000000 in
theorem c_X7_open {l : Launch} (X : XT) (s0 : ST) (Q : Option Nat → ST → Prop) (h : w_X7_open s0 Q) : MetO l yX7_open (wS yX7_open cX7_open 2 (some (.object "ChairFront$Ticket"))) rm_X7_open X s0 [.ref (xa X 2)] Q := by
  refine metG (own := RX7) (k := 1) (lv0 := [some (.ref (xa X 2)), none]) (by decide) rfl rfl rfl ?_
  intro p e s m args below meth c E hr
  refine r_aload_n (pc := 0) E dX7_open_0 rfl rfl ?_
  refine r_get (pc := 1) (j := 0) (v := .ref (xa X 3)) E ok_2 kc_7 rfl q_119 rfl dX7_open_1 ?_
  refine r_aload_n (pc := 4) E dX7_open_4 rfl rfl ?_
  refine r_get (pc := 5) (j := 1) E ok_2 kc_7 rfl q_121 (svI rfl) dX7_open_5 ?_
  refine r_aldTn (pc := 8) E h.1 h.2.1 dX7_open_8 (fun k1 ek1 ok1 => ?_)
  have h := h.2.2 k1 ek1
  refine r_astore_n (pc := 9) (lv' := [some (.ref (xa X 2)), some (.ref (xa X k1))]) E dX7_open_9 rfl rfl rfl rfl ?_
  refine r_aload_n (pc := 10) E dX7_open_10 rfl rfl ?_
  refine r_aload_n (pc := 11) E dX7_open_11 rfl rfl ?_
  refine r_get (pc := 12) (j := 2) E ok_2 kc_7 rfl q_123 (svI rfl) dX7_open_12 ?_
  refine r_put (pc := 15) (j := 0) E ok1 kc_6 rfl q_94 (r0 (.inr ok1) rfl) rfl rfl dX7_open_15 (fun s1 es1 => ?_)
  have h := h s1 es1
  refine r_aload_n (pc := 18) E dX7_open_18 rfl rfl ?_
  refine r_dup (pc := 19) E dX7_open_19 rfl ?_
  refine r_get (pc := 20) (j := 1) E ok_2 kc_7 rfl q_121 (svI rfl) dX7_open_20 ?_
  refine r_iconst (pc := 23) (v := 1) E dX7_open_23 (by decide) ?_
  refine r_iadd (pc := 24) E dX7_open_24 ?_
  refine r_put (pc := 25) (j := 1) E ok_2 kc_7 rfl q_121 rfl rfl rfl dX7_open_25 (fun s2 es2 => ?_)
  have h := h s2 es2
  refine r_aload_n (pc := 28) E dX7_open_28 rfl rfl ?_
  refine r_dup (pc := 29) E dX7_open_29 rfl ?_
  refine r_get (pc := 30) (j := 2) E ok_2 kc_7 rfl q_123 (svI rfl) dX7_open_30 ?_
  refine r_iconst (pc := 33) (v := 1) E dX7_open_33 (by decide) ?_
  refine r_iadd (pc := 34) E dX7_open_34 ?_
  refine r_put (pc := 35) (j := 2) E ok_2 kc_7 rfl q_123 rfl rfl rfl dX7_open_35 (fun s3 es3 => ?_)
  have h := h s3 es3
  refine r_aload_n (pc := 38) E dX7_open_38 rfl rfl ?_
  exact r_oret (pc := 39) (some k1) E hr dX7_open_39 rfl h

/-! ChairFront.hire -/
def rm_X8_hire : Room := { frames := 2, cells := 0, slots := 0, locals := 43 }
theorem ci_X8_hire : CI yX8_hire RX8 cX8_hire 6 (some .int) 3 := ⟨q_400, q_401, q_55, q_402, by decide +kernel⟩
def w_X8_hire (s0 : ST) (a1 : Int32) (a2 : Int32) (a3 : Int32) (Q : Int32 → ST → Prop) : Prop := w_X8_isStretch s0 a1 (fun r1 s1 => ((r1 = 0 → (Q (-1000001) s1)) ∧ (¬ (r1 = 0) → (w_X8_within s1 a2 1 100 (fun r2 s2 => ((r2 = 0 → (Q (-1000001) s2)) ∧ (¬ (r2 = 0) → (w_X8_within s2 a3 1 12 (fun r3 s3 => ((¬ r3 = 0 → ((((s3 0 6) ≤ (s3 0 4) → (vp_in a1 10 ∧ (∀ k1 : Nat, k1 = 23 + a1.toNatClampNeg → (w_X7_isFull s3 (fun r4 s4 => ((¬ r4 = 0 → (Q (-1000003) s4)) ∧ (r4 = 0 → (w_X4_free s4 k1 (fun r5 s5 => ((a2 ≤ r5 → (∀ s6 : ST, s6 = up s5 k1 3 ((s5 k1 3) + a2) → (w_X7_open s6 (fun r6 s7 => ∃ k2 : Nat, r6 = some k2 ∧ (okc 6 k2 ∧ (∀ s8 : ST, s8 = up s7 k2 1 a1 → (∀ s9 : ST, s9 = up s8 k2 2 (s8 k1 1) → (∀ s10 : ST, s10 = up s9 k2 3 a2 → (∀ s11 : ST, s11 = up s10 k2 4 a3 → (∀ s12 : ST, s12 = up s11 k2 5 (s11 0 3) → (∀ s13 : ST, s13 = up s12 k2 6 (((s12 0 3) * a2) * a3) → (∀ s14 : ST, s14 = up s13 2 3 ((s13 2 3) + (s13 k2 6)) → (Q (s14 k2 0) s14))))))))))))) ∧ (¬ (a2 ≤ r5) → (Q (-1000003) s5)))))))))))) ∧ (¬ ((s3 0 6) ≤ (s3 0 4)) → (Q (-1000002) s3))))) ∧ (r3 = 0 → (Q (-1000001) s3))))))))))))
set_option maxRecDepth 100000 in
set_option maxHeartbeats 4000000 in
theorem c_X8_hire {l : Launch} (X : XT) (s0 : ST) (a1 : Int32) (a2 : Int32) (a3 : Int32) (Q : Int32 → ST → Prop) (h : w_X8_hire s0 a1 a2 a3 Q) : MetI l yX8_hire (wS yX8_hire cX8_hire 6 (some .int)) rm_X8_hire X s0 [.ref (xa X 0), .int a1, .int a2, .int a3] Q := by
  refine metG (own := RX8) (k := 2) (lv0 := [some (.ref (xa X 0)), some (.int a1), some (.int a2), some (.int a3), none, none]) (by decide) rfl rfl rfl ?_
  intro p e s m args below meth c E hr
  refine r_aload_n (pc := 0) E dX8_hire_0 rfl rfl ?_
  refine r_iload_n (pc := 1) E dX8_hire_1 rfl rfl ?_
  refine afterI (pc := 2) E (fun H locs ls hP hS hl => runV (As := [.int a1]) (rest := []) E (c_X8_isStretch X _ _ _  h) ok_0 kc_8.1 ci_X8_isStretch q_370 rfl rfl rfl rfl dX8_hire_2 hP hS hl) (fun r1 s1 h => ?_)
  refine r_if_eq (pc := 5) (tgt := 28) E dX8_hire_5 (by decide) (fun c1 => ?_) (fun c1 => ?_)
  · have h := h.1 c1
    refine r_ldc (pc := 28) (v := (-1000001)) E q_359 dX8_hire_28 ?_
    exact r_iret (pc := 30) E hr dX8_hire_30 h
  · have h := h.2 c1
    refine r_iload_n (pc := 8) E dX8_hire_8 rfl rfl ?_
    refine r_iconst (pc := 9) (v := 1) E dX8_hire_9 (by decide) ?_
    refine r_bipush (pc := 10) (v := 100) E dX8_hire_10 (by decide) ?_
    refine afterI (pc := 12) E (fun H locs ls hP hS hl => runS (As := [.int a2, .int 1, .int 100]) (rest := []) E (c_X8_within X _ _ _ _ _  h) cs_X8_within q_356 rfl rfl rfl rfl dX8_hire_12 hP hS hl) (fun r2 s2 h => ?_)
    refine r_if_eq (pc := 15) (tgt := 28) E dX8_hire_15 (by decide) (fun c2 => ?_) (fun c2 => ?_)
    · have h := h.1 c2
      refine r_ldc (pc := 28) (v := (-1000001)) E q_359 dX8_hire_28 ?_
      exact r_iret (pc := 30) E hr dX8_hire_30 h
    · have h := h.2 c2
      refine r_iload_n (pc := 18) E dX8_hire_18 rfl rfl ?_
      refine r_iconst (pc := 19) (v := 1) E dX8_hire_19 (by decide) ?_
      refine r_bipush (pc := 20) (v := 12) E dX8_hire_20 (by decide) ?_
      refine afterI (pc := 22) E (fun H locs ls hP hS hl => runS (As := [.int a3, .int 1, .int 12]) (rest := []) E (c_X8_within X _ _ _ _ _  h) cs_X8_within q_356 rfl rfl rfl rfl dX8_hire_22 hP hS hl) (fun r3 s3 h => ?_)
      refine r_if_ne (pc := 25) (tgt := 31) E dX8_hire_25 (by decide) (fun c3 => ?_) (fun c3 => ?_)
      · have h := h.1 c3
        refine r_aload_n (pc := 31) E dX8_hire_31 rfl rfl ?_
        refine r_get (pc := 32) (j := 6) E ok_0 kc_8 rfl q_309 (svI rfl) dX8_hire_32 ?_
        refine r_aload_n (pc := 35) E dX8_hire_35 rfl rfl ?_
        refine r_get (pc := 36) (j := 4) E ok_0 kc_8 rfl q_307 (svI rfl) dX8_hire_36 ?_
        refine r_icmp_le (pc := 39) (tgt := 45) E dX8_hire_39 (by decide) (fun c4 => ?_) (fun c4 => ?_)
        · have h := h.1 c4
          refine r_aload_n (pc := 45) E dX8_hire_45 rfl rfl ?_
          refine r_get (pc := 46) (j := 8) (v := .ref (xa X 1)) E ok_0 kc_8 rfl q_311 rfl dX8_hire_46 ?_
          refine r_iload_n (pc := 49) E dX8_hire_49 rfl rfl ?_
          refine r_aldSn (pc := 50) E h.1 dX8_hire_50 (fun k1 ek1 ok1 => ?_)
          have h := h.2 k1 ek1
          refine r_astore (pc := 51) (lv' := [some (.ref (xa X 0)), some (.int a1), some (.int a2), some (.int a3), some (.ref (xa X k1)), none]) E dX8_hire_51 rfl rfl rfl ?_
          refine r_aload_n (pc := 53) E dX8_hire_53 rfl rfl ?_
          refine r_get (pc := 54) (j := 9) (v := .ref (xa X 2)) E ok_0 kc_8 rfl q_312 rfl dX8_hire_54 ?_
          refine afterI (pc := 57) E (fun H locs ls hP hS hl => runV (As := []) (rest := []) E (c_X7_isFull X _  _  h) ok_2 kc_7.1 ci_X7_isFull q_403 rfl rfl rfl rfl dX8_hire_57 hP hS hl) (fun r4 s4 h => ?_)
          refine r_if_ne (pc := 60) (tgt := 72) E dX8_hire_60 (by decide) (fun c5 => ?_) (fun c5 => ?_)
          · have h := h.1 c5
            refine r_ldc (pc := 72) (v := (-1000003)) E q_360 dX8_hire_72 ?_
            exact r_iret (pc := 74) E hr dX8_hire_74 h
          · have h := h.2 c5
            refine r_aload (pc := 63) E dX8_hire_63 rfl ?_
            refine afterI (pc := 65) E (fun H locs ls hP hS hl => runV (As := []) (rest := []) E (c_X4_free X _ _ _ ok1 h) ok1 kc_4.1 ci_X4_free q_378 rfl rfl rfl rfl dX8_hire_65 hP hS hl) (fun r5 s5 h => ?_)
            refine r_iload_n (pc := 68) E dX8_hire_68 rfl rfl ?_
            refine r_icmp_ge (pc := 69) (tgt := 75) E dX8_hire_69 (by decide) (fun c6 => ?_) (fun c6 => ?_)
            · have h := h.1 c6
              refine r_aload (pc := 75) E dX8_hire_75 rfl ?_
              refine r_dup (pc := 77) E dX8_hire_77 rfl ?_
              refine r_get (pc := 78) (j := 3) E ok1 kc_4 rfl q_281 (svI (r0 (.inl ok1) rfl)) dX8_hire_78 ?_
              refine r_iload_n (pc := 81) E dX8_hire_81 rfl rfl ?_
              refine r_iadd (pc := 82) E dX8_hire_82 ?_
              refine r_put (pc := 83) (j := 3) E ok1 kc_4 rfl q_281 (r0 (.inl ok1) rfl) rfl rfl dX8_hire_83 (fun s6 es6 => ?_)
              have h := h s6 es6
              refine r_aload_n (pc := 86) E dX8_hire_86 rfl rfl ?_
              refine r_get (pc := 87) (j := 9) (v := .ref (xa X 2)) E ok_0 kc_8 rfl q_312 rfl dX8_hire_87 ?_
              refine afterO (pc := 90) E (fun H locs ls hP hS hl => runV (As := []) (rest := []) E (c_X7_open X _  _  h) ok_2 kc_7.1 ci_X7_open q_407 rfl rfl rfl rfl dX8_hire_90 hP hS hl) (fun r6 s7 h => ?_)
              obtain ⟨k2, rfl, ok2, h⟩ := h
              refine r_astore (pc := 93) (lv' := [some (.ref (xa X 0)), some (.int a1), some (.int a2), some (.int a3), some (.ref (xa X k1)), some (.ref (xa X k2))]) E dX8_hire_93 rfl rfl rfl ?_
              refine r_aload (pc := 95) E dX8_hire_95 rfl ?_
              refine r_iload_n (pc := 97) E dX8_hire_97 rfl rfl ?_
              refine r_put (pc := 98) (j := 1) E ok2 kc_6 rfl q_97 (r0 (.inr ok2) rfl) rfl rfl dX8_hire_98 (fun s8 es8 => ?_)
              have h := h s8 es8
              refine r_aload (pc := 101) E dX8_hire_101 rfl ?_
              refine r_aload (pc := 103) E dX8_hire_103 rfl ?_
              refine r_get (pc := 105) (j := 1) E ok1 kc_4 rfl q_275 (svI (r0 (.inl ok1) rfl)) dX8_hire_105 ?_
              refine r_put (pc := 108) (j := 2) E ok2 kc_6 rfl q_98 (r0 (.inr ok2) rfl) rfl rfl dX8_hire_108 (fun s9 es9 => ?_)
              have h := h s9 es9
              refine r_aload (pc := 111) E dX8_hire_111 rfl ?_
              refine r_iload_n (pc := 113) E dX8_hire_113 rfl rfl ?_
              refine r_put (pc := 114) (j := 3) E ok2 kc_6 rfl q_100 (r0 (.inr ok2) rfl) rfl rfl dX8_hire_114 (fun s10 es10 => ?_)
              have h := h s10 es10
              refine r_aload (pc := 117) E dX8_hire_117 rfl ?_
              refine r_iload_n (pc := 119) E dX8_hire_119 rfl rfl ?_
              refine r_put (pc := 120) (j := 4) E ok2 kc_6 rfl q_101 (r0 (.inr ok2) rfl) rfl rfl dX8_hire_120 (fun s11 es11 => ?_)
              have h := h s11 es11
              refine r_aload (pc := 123) E dX8_hire_123 rfl ?_
              refine r_aload_n (pc := 125) E dX8_hire_125 rfl rfl ?_
              refine r_get (pc := 126) (j := 3) E ok_0 kc_8 rfl q_306 (svI rfl) dX8_hire_126 ?_
              refine r_put (pc := 129) (j := 5) E ok2 kc_6 rfl q_102 (r0 (.inr ok2) rfl) rfl rfl dX8_hire_129 (fun s12 es12 => ?_)
              have h := h s12 es12
              refine r_aload (pc := 132) E dX8_hire_132 rfl ?_
              refine r_aload_n (pc := 134) E dX8_hire_134 rfl rfl ?_
              refine r_get (pc := 135) (j := 3) E ok_0 kc_8 rfl q_306 (svI rfl) dX8_hire_135 ?_
              refine r_iload_n (pc := 138) E dX8_hire_138 rfl rfl ?_
              refine r_imul (pc := 139) E dX8_hire_139 ?_
              refine r_iload_n (pc := 140) E dX8_hire_140 rfl rfl ?_
              refine r_imul (pc := 141) E dX8_hire_141 ?_
              refine r_put (pc := 142) (j := 6) E ok2 kc_6 rfl q_103 (r0 (.inr ok2) rfl) rfl rfl dX8_hire_142 (fun s13 es13 => ?_)
              have h := h s13 es13
              refine r_aload_n (pc := 145) E dX8_hire_145 rfl rfl ?_
              refine r_get (pc := 146) (j := 9) (v := .ref (xa X 2)) E ok_0 kc_8 rfl q_312 rfl dX8_hire_146 ?_
              refine r_dup (pc := 149) E dX8_hire_149 rfl ?_
              refine r_get (pc := 150) (j := 3) E ok_2 kc_7 rfl q_125 (svI rfl) dX8_hire_150 ?_
              refine r_aload (pc := 153) E dX8_hire_153 rfl ?_
              refine r_get (pc := 155) (j := 6) E ok2 kc_6 rfl q_103 (svI (r0 (.inr ok2) rfl)) dX8_hire_155 ?_
              refine r_iadd (pc := 158) E dX8_hire_158 ?_
              refine r_put (pc := 159) (j := 3) E ok_2 kc_7 rfl q_125 rfl rfl rfl dX8_hire_159 (fun s14 es14 => ?_)
              have h := h s14 es14
              refine r_aload (pc := 162) E dX8_hire_162 rfl ?_
              refine r_get (pc := 164) (j := 0) E ok2 kc_6 rfl q_95 (svI (r0 (.inr ok2) rfl)) dX8_hire_164 ?_
              exact r_iret (pc := 167) E hr dX8_hire_167 h
            · have h := h.2 c6
              refine r_ldc (pc := 72) (v := (-1000003)) E q_360 dX8_hire_72 ?_
              exact r_iret (pc := 74) E hr dX8_hire_74 h
        · have h := h.2 c4
          refine r_ldc (pc := 42) (v := (-1000002)) E q_382 dX8_hire_42 ?_
          exact r_iret (pc := 44) E hr dX8_hire_44 h
      · have h := h.2 c3
        refine r_ldc (pc := 28) (v := (-1000001)) E q_359 dX8_hire_28 ?_
        exact r_iret (pc := 30) E hr dX8_hire_30 h

/-! ChairFront$TicketBook.find -/
def rm_X7_find : Room := { frames := 0, cells := 0, slots := 0, locals := 0 }
theorem ci_X7_find : CI yX7_find RX7 cX7_find 3 (some (.object "ChairFront$Ticket")) 1 := ⟨q_416, q_417, q_56, q_418, by decide +kernel⟩
def w_X7_find_L2 (v1 : Int32) (K : ST → Prop) (Q : Option Nat → ST → Prop) : Nat → ST → Int32 → Prop
  | 0, _, _ => False
  | n + 1, s0, v2 => (((s0 2 1) ≤ v2 → (K s0)) ∧ (¬ ((s0 2 1) ≤ v2) → (vp_in v2 30 ∧ ((s0 3 v2.toNatClampNeg).toNatClampNeg < 30 ∧ (∀ k1 : Nat, k1 = 33 + (s0 3 v2.toNatClampNeg).toNatClampNeg → (((¬ (s0 k1 0) = v1 → (∀ x1 : Int32, x1 = v2 + 1 → (w_X7_find_L2 v1 K Q n s0 x1))) ∧ ((s0 k1 0) = v1 → (vp_in v2 30 ∧ ((s0 3 v2.toNatClampNeg).toNatClampNeg < 30 ∧ (∀ k2 : Nat, k2 = 33 + (s0 3 v2.toNatClampNeg).toNatClampNeg → (Q (some k2) s0))))))))))))
set_option maxRecDepth 100000 in
set_option maxHeartbeats 4000000 in
theorem t_X7_find_L2 {p : Program} {l : Launch} {e : Env} {s : State} {m : MethodId} {args : Array Value} {below : List Frame} {meth : Method} {c : Code} {X : XT} (E : Ev p rm_X7_find s m args meth c X (xA X) 3 0 0 cX7_find RX7) (hr : meth.sig.returnType = (some (.object "ChairFront$Ticket"))) {v1 : Int32} {K : ST → Prop} {Q : Option Nat → ST → Prop} (hK : ∀ (s0 : ST), K s0 → G p l e rm_X7_find s m args below meth c X (xA X) 3 0 0 (MQ below (va_Qo X Q) args s 0 0 (xA X)) s0 36 [none, none, none] []) : ∀ (n : Nat) (s0 : ST) (v2 : Int32), w_X7_find_L2 v1 K Q n s0 v2 → G p l e rm_X7_find s m args below meth c X (xA X) 3 0 0 (MQ below (va_Qo X Q) args s 0 0 (xA X)) s0 2 [some (.ref (xa X 2)), some (.int v1), some (.int v2)] [] := by
  intro n
  induction n with
  | zero => intro s0 v2 h; exact h.elim
  | succ n ih =>
    intro s0 v2 h
    refine r_iload_n (pc := 2) E dX7_find_2 rfl rfl ?_
    refine r_aload_n (pc := 3) E dX7_find_3 rfl rfl ?_
    refine r_get (pc := 4) (j := 1) E ok_2 kc_7 rfl q_121 (svI rfl) dX7_find_4 ?_
    refine r_icmp_ge (pc := 7) (tgt := 36) E dX7_find_7 (by decide) (fun c1 => ?_) (fun c1 => ?_)
    · have h := h.1 c1
      exact r_forget (le_n (le_n (le_n le_0))) (hK _  h)
    · have h := h.2 c1
      refine r_aload_n (pc := 10) E dX7_find_10 rfl rfl ?_
      refine r_get (pc := 11) (j := 0) (v := .ref (xa X 3)) E ok_2 kc_7 rfl q_119 rfl dX7_find_11 ?_
      refine r_iload_n (pc := 14) E dX7_find_14 rfl rfl ?_
      refine r_aldTn (pc := 15) E h.1 h.2.1 dX7_find_15 (fun k1 ek1 ok1 => ?_)
      have h := h.2.2 k1 ek1
      refine r_get (pc := 16) (j := 0) E ok1 kc_6 rfl q_94 (svI (r0 (.inr ok1) rfl)) dX7_find_16 ?_
      refine r_iload_n (pc := 19) E dX7_find_19 rfl rfl ?_
      refine r_icmp_ne (pc := 20) (tgt := 30) E dX7_find_20 (by decide) (fun c2 => ?_) (fun c2 => ?_)
      · have h := h.1 c2
        obtain ⟨x1, ex1⟩ : ∃ z : Int32, z = v2 + 1 := ⟨_, rfl⟩
        have h := h x1 ex1
        refine r_iinc (pc := 30) (v := 1) (lv' := [some (.ref (xa X 2)), some (.int v1), some (.int x1)]) E dX7_find_30 rfl (by decide) rfl rfl (by rw [ex1]; rfl) ?_
        refine r_goto (pc := 33) (tgt := 2) E dX7_find_33 (by decide) ?_
        exact r_forget (le_s (le_s (le_s le_0))) (ih _ _ h)
      · have h := h.2 c2
        refine r_aload_n (pc := 23) E dX7_find_23 rfl rfl ?_
        refine r_get (pc := 24) (j := 0) (v := .ref (xa X 3)) E ok_2 kc_7 rfl q_119 rfl dX7_find_24 ?_
        refine r_iload_n (pc := 27) E dX7_find_27 rfl rfl ?_
        refine r_aldTn (pc := 28) E h.1 h.2.1 dX7_find_28 (fun k2 ek2 ok2 => ?_)
        have h := h.2.2 k2 ek2
        exact r_oret (pc := 29) (some k2) E hr dX7_find_29 rfl h

def w_X7_find (s0 : ST) (a1 : Int32) (Q : Option Nat → ST → Prop) : Prop := ∃ n1 : Nat, w_X7_find_L2 a1 (fun (s1 : ST) => Q none s1) Q n1 s0 0
set_option maxRecDepth 100000 in
set_option maxHeartbeats 4000000 in
theorem c_X7_find {l : Launch} (X : XT) (s0 : ST) (a1 : Int32) (Q : Option Nat → ST → Prop) (h : w_X7_find s0 a1 Q) : MetO l yX7_find (wS yX7_find cX7_find 3 (some (.object "ChairFront$Ticket"))) rm_X7_find X s0 [.ref (xa X 2), .int a1] Q := by
  refine metG (own := RX7) (k := 1) (lv0 := [some (.ref (xa X 2)), some (.int a1), none]) (by decide) rfl rfl rfl ?_
  intro p e s m args below meth c E hr
  refine r_iconst (pc := 0) (v := 0) E dX7_find_0 (by decide) ?_
  refine r_istore_n (pc := 1) (lv' := [some (.ref (xa X 2)), some (.int a1), some (.int 0)]) E dX7_find_1 rfl rfl rfl rfl ?_
  obtain ⟨n1, h⟩ := h
  refine r_forget (le_s (le_s (le_s le_0))) (t_X7_find_L2 E hr ?_ n1 _ _ h)
  intro s1 h
  refine r_null (pc := 36) E dX7_find_36 ?_
  exact r_oret (pc := 37) none E hr dX7_find_37 rfl h

/-! ChairFront$Rules.holdsIn -/
def rm_X3_holdsIn : Room := { frames := 0, cells := 0, slots := 0, locals := 0 }
theorem ci_X3_holdsIn : CI yX3_holdsIn RX3 cX3_holdsIn 3 (some .boolean) 2 := ⟨q_420, q_421, q_60, q_422, by decide +kernel⟩
def w_X3_holdsIn (s0 : ST) (k0 : Nat) (a1 : Int32) (a2 : Int32) (Q : Int32 → ST → Prop) : Prop := (((s0 k0 1) = 2 → (Q 1 s0)) ∧ (¬ ((s0 k0 1) = 2) → (((¬ (s0 k0 1) = 1 → (Q 0 s0)) ∧ ((s0 k0 1) = 1 → (((¬ a1 = a2 → (Q 0 s0)) ∧ (a1 = a2 → (Q 1 s0)))))))))
set_option maxRecDepth 100000 in
set_option maxHeartbeats 4000000 in
theorem c_X3_holdsIn {l : Launch} (X : XT) (s0 : ST) (k0 : Nat) (a1 : Int32) (a2 : Int32) (Q : Int32 → ST → Prop) (hk0 : okc 3 k0) (h : w_X3_holdsIn s0 k0 a1 a2 Q) : MetI l yX3_holdsIn (wS yX3_holdsIn cX3_holdsIn 3 (some .boolean)) rm_X3_holdsIn X s0 [.ref (xa X k0), .int a1, .int a2] Q := by
  refine metG (own := RX3) (k := 0) (lv0 := [some (.ref (xa X k0)), some (.int a1), some (.int a2)]) (by decide) rfl rfl rfl ?_
  intro p e s m args below meth c E hr
  refine r_aload_n (pc := 0) E dX3_holdsIn_0 rfl rfl ?_
  refine r_get (pc := 1) (j := 1) E hk0 kc_3 rfl q_200 (svI (r0R hk0 rfl)) dX3_holdsIn_1 ?_
  refine r_iconst (pc := 4) (v := 2) E dX3_holdsIn_4 (by decide) ?_
  refine r_icmp_eq (pc := 5) (tgt := 21) E dX3_holdsIn_5 (by decide) (fun c1 => ?_) (fun c1 => ?_)
  · have h := h.1 c1
    refine r_iconst (pc := 21) (v := 1) E dX3_holdsIn_21 (by decide) ?_
    refine r_goto (pc := 22) (tgt := 26) E dX3_holdsIn_22 (by decide) ?_
    exact r_zret (pc := 26) E hr dX3_holdsIn_26 rfl h
  · have h := h.2 c1
    refine r_aload_n (pc := 8) E dX3_holdsIn_8 rfl rfl ?_
    refine r_get (pc := 9) (j := 1) E hk0 kc_3 rfl q_200 (svI (r0R hk0 rfl)) dX3_holdsIn_9 ?_
    refine r_iconst (pc := 12) (v := 1) E dX3_holdsIn_12 (by decide) ?_
    refine r_icmp_ne (pc := 13) (tgt := 25) E dX3_holdsIn_13 (by decide) (fun c2 => ?_) (fun c2 => ?_)
    · have h := h.1 c2
      refine r_iconst (pc := 25) (v := 0) E dX3_holdsIn_25 (by decide) ?_
      exact r_zret (pc := 26) E hr dX3_holdsIn_26 rfl h
    · have h := h.2 c2
      refine r_iload_n (pc := 16) E dX3_holdsIn_16 rfl rfl ?_
      refine r_iload_n (pc := 17) E dX3_holdsIn_17 rfl rfl ?_
      refine r_icmp_ne (pc := 18) (tgt := 25) E dX3_holdsIn_18 (by decide) (fun c3 => ?_) (fun c3 => ?_)
      · have h := h.1 c3
        refine r_iconst (pc := 25) (v := 0) E dX3_holdsIn_25 (by decide) ?_
        exact r_zret (pc := 26) E hr dX3_holdsIn_26 rfl h
      · have h := h.2 c3
        refine r_iconst (pc := 21) (v := 1) E dX3_holdsIn_21 (by decide) ?_
        refine r_goto (pc := 22) (tgt := 26) E dX3_holdsIn_22 (by decide) ?_
        exact r_zret (pc := 26) E hr dX3_holdsIn_26 rfl h

/-! ChairFront.shift -/
def rm_X8_shift : Room := { frames := 2, cells := 0, slots := 0, locals := 43 }
theorem ci_X8_shift : CI yX8_shift RX8 cX8_shift 5 (some .int) 2 := ⟨q_412, q_413, q_55, q_414, by decide +kernel⟩
def w_X8_shift (s0 : ST) (a1 : Int32) (a2 : Int32) (Q : Int32 → ST → Prop) : Prop := w_X7_find s0 a1 (fun r1 s1 => ((r1 = none → (Q (-1000001) s1)) ∧ (∀ k1 : Nat, r1 = some k1 → okc 6 k1 ∧ (w_X8_isStretch s1 a2 (fun r2 s2 => ((r2 = 0 → (Q (-1000001) s2)) ∧ (¬ (r2 = 0) → (((¬ (s2 k1 1) = a2 → (vp_in a2 10 ∧ (∀ k2 : Nat, k2 = 23 + a2.toNatClampNeg → ((s2 0 11).toNatClampNeg < 2 ∧ (∀ k3 : Nat, k3 = 7 + (s2 0 11).toNatClampNeg → (w_X3_holdsIn s2 k3 (s2 k2 1) (s2 k1 2) (fun r3 s3 => ((¬ r3 = 0 → (w_X4_free s3 k2 (fun r4 s4 => (((s4 k1 3) ≤ r4 → (vp_in (s4 k1 1) 10 ∧ (∀ k4 : Nat, k4 = 23 + (s4 k1 1).toNatClampNeg → (∀ s5 : ST, s5 = up s4 k4 3 ((s4 k4 3) - (s4 k1 3)) → (∀ s6 : ST, s6 = up s5 k2 3 ((s5 k2 3) + (s5 k1 3)) → (∀ s7 : ST, s7 = up s6 k1 1 a2 → (Q 1 s7))))))) ∧ (¬ ((s4 k1 3) ≤ r4) → (Q (-1000003) s4)))))) ∧ (r3 = 0 → (Q (-1000002) s3)))))))))) ∧ ((s2 k1 1) = a2 → (Q (-1000001) s2)))))))))))
set_option maxRecDepth 100000 in
set_option maxHeartbeats 4000000 in
theorem c_X8_shift {l : Launch} (X : XT) (s0 : ST) (a1 : Int32) (a2 : Int32) (Q : Int32 → ST → Prop) (h : w_X8_shift s0 a1 a2 Q) : MetI l yX8_shift (wS yX8_shift cX8_shift 5 (some .int)) rm_X8_shift X s0 [.ref (xa X 0), .int a1, .int a2] Q := by
  refine metG (own := RX8) (k := 2) (lv0 := [some (.ref (xa X 0)), some (.int a1), some (.int a2), none, none]) (by decide) rfl rfl rfl ?_
  intro p e s m args below meth c E hr
  refine r_aload_n (pc := 0) E dX8_shift_0 rfl rfl ?_
  refine r_get (pc := 1) (j := 9) (v := .ref (xa X 2)) E ok_0 kc_8 rfl q_312 rfl dX8_shift_1 ?_
  refine r_iload_n (pc := 4) E dX8_shift_4 rfl rfl ?_
  refine afterO (pc := 5) E (fun H locs ls hP hS hl => runV (As := [.int a1]) (rest := []) E (c_X7_find X _ _ _  h) ok_2 kc_7.1 ci_X7_find q_415 rfl rfl rfl rfl dX8_shift_5 hP hS hl) (fun r1 s1 h => ?_)
  rcases r1 with _ | k1
  · have h := h.1 rfl
    refine r_astore_nN (pc := 8) (lv' := [some (.ref (xa X 0)), some (.int a1), some (.int a2), some (.null), none]) E dX8_shift_8 rfl rfl rfl rfl ?_
    refine r_aload_nN (pc := 9) E dX8_shift_9 rfl rfl ?_
    refine r_ifnullN (pc := 10) (tgt := 29) E dX8_shift_10 (by decide) ?_
    refine r_ldc (pc := 29) (v := (-1000001)) E q_359 dX8_shift_29 ?_
    exact r_iret (pc := 31) E hr dX8_shift_31 h
  · obtain ⟨ok1, h⟩ := h.2 k1 rfl
    refine r_astore_n (pc := 8) (lv' := [some (.ref (xa X 0)), some (.int a1), some (.int a2), some (.ref (xa X k1)), none]) E dX8_shift_8 rfl rfl rfl rfl ?_
    refine r_aload_n (pc := 9) E dX8_shift_9 rfl rfl ?_
    refine r_ifnull (pc := 10) E dX8_shift_10 ?_
    refine r_aload_n (pc := 13) E dX8_shift_13 rfl rfl ?_
    refine r_iload_n (pc := 14) E dX8_shift_14 rfl rfl ?_
    refine afterI (pc := 15) E (fun H locs ls hP hS hl => runV (As := [.int a2]) (rest := []) E (c_X8_isStretch X _ _ _  h) ok_0 kc_8.1 ci_X8_isStretch q_370 rfl rfl rfl rfl dX8_shift_15 hP hS hl) (fun r2 s2 h => ?_)
    refine r_if_eq (pc := 18) (tgt := 29) E dX8_shift_18 (by decide) (fun c1 => ?_) (fun c1 => ?_)
    · have h := h.1 c1
      refine r_ldc (pc := 29) (v := (-1000001)) E q_359 dX8_shift_29 ?_
      exact r_iret (pc := 31) E hr dX8_shift_31 h
    · have h := h.2 c1
      refine r_aload_n (pc := 21) E dX8_shift_21 rfl rfl ?_
      refine r_get (pc := 22) (j := 1) E ok1 kc_6 rfl q_97 (svI (r0 (.inr ok1) rfl)) dX8_shift_22 ?_
      refine r_iload_n (pc := 25) E dX8_shift_25 rfl rfl ?_
      refine r_icmp_ne (pc := 26) (tgt := 32) E dX8_shift_26 (by decide) (fun c2 => ?_) (fun c2 => ?_)
      · have h := h.1 c2
        refine r_aload_n (pc := 32) E dX8_shift_32 rfl rfl ?_
        refine r_get (pc := 33) (j := 8) (v := .ref (xa X 1)) E ok_0 kc_8 rfl q_311 rfl dX8_shift_33 ?_
        refine r_iload_n (pc := 36) E dX8_shift_36 rfl rfl ?_
        refine r_aldSn (pc := 37) E h.1 dX8_shift_37 (fun k2 ek2 ok2 => ?_)
        have h := h.2 k2 ek2
        refine r_astore (pc := 38) (lv' := [some (.ref (xa X 0)), some (.int a1), some (.int a2), some (.ref (xa X k1)), some (.ref (xa X k2))]) E dX8_shift_38 rfl rfl rfl ?_
        refine r_aload_n (pc := 40) E dX8_shift_40 rfl rfl ?_
        refine r_getR (pc := 41) (j := 11) E (by decide) kc_8 q_314 h.1 dX8_shift_41 (fun k3 ek3 ok3 => ?_)
        have h := h.2 k3 ek3
        refine r_aload (pc := 44) E dX8_shift_44 rfl ?_
        refine r_get (pc := 46) (j := 1) E ok2 kc_4 rfl q_275 (svI (r0 (.inl ok2) rfl)) dX8_shift_46 ?_
        refine r_aload_n (pc := 49) E dX8_shift_49 rfl rfl ?_
        refine r_get (pc := 50) (j := 2) E ok1 kc_6 rfl q_98 (svI (r0 (.inr ok1) rfl)) dX8_shift_50 ?_
        refine afterI (pc := 53) E (fun H locs ls hP hS hl => runV (As := [.int (s2 k2 1), .int (s2 k1 2)]) (rest := []) E (c_X3_holdsIn X _ _ _ _ _ ok3 h) ok3 kc_3.1 ci_X3_holdsIn q_419 rfl rfl rfl rfl dX8_shift_53 hP hS hl) (fun r3 s3 h => ?_)
        refine r_if_ne (pc := 56) (tgt := 62) E dX8_shift_56 (by decide) (fun c3 => ?_) (fun c3 => ?_)
        · have h := h.1 c3
          refine r_aload (pc := 62) E dX8_shift_62 rfl ?_
          refine afterI (pc := 64) E (fun H locs ls hP hS hl => runV (As := []) (rest := []) E (c_X4_free X _ _ _ ok2 h) ok2 kc_4.1 ci_X4_free q_378 rfl rfl rfl rfl dX8_shift_64 hP hS hl) (fun r4 s4 h => ?_)
          refine r_aload_n (pc := 67) E dX8_shift_67 rfl rfl ?_
          refine r_get (pc := 68) (j := 3) E ok1 kc_6 rfl q_100 (svI (r0 (.inr ok1) rfl)) dX8_shift_68 ?_
          refine r_icmp_ge (pc := 71) (tgt := 77) E dX8_shift_71 (by decide) (fun c4 => ?_) (fun c4 => ?_)
          · have h := h.1 c4
            refine r_aload_n (pc := 77) E dX8_shift_77 rfl rfl ?_
            refine r_get (pc := 78) (j := 8) (v := .ref (xa X 1)) E ok_0 kc_8 rfl q_311 rfl dX8_shift_78 ?_
            refine r_aload_n (pc := 81) E dX8_shift_81 rfl rfl ?_
            refine r_get (pc := 82) (j := 1) E ok1 kc_6 rfl q_97 (svI (r0 (.inr ok1) rfl)) dX8_shift_82 ?_
            refine r_aldSn (pc := 85) E h.1 dX8_shift_85 (fun k4 ek4 ok4 => ?_)
            have h := h.2 k4 ek4
            refine r_dup (pc := 86) E dX8_shift_86 rfl ?_
            refine r_get (pc := 87) (j := 3) E ok4 kc_4 rfl q_281 (svI (r0 (.inl ok4) rfl)) dX8_shift_87 ?_
            refine r_aload_n (pc := 90) E dX8_shift_90 rfl rfl ?_
            refine r_get (pc := 91) (j := 3) E ok1 kc_6 rfl q_100 (svI (r0 (.inr ok1) rfl)) dX8_shift_91 ?_
            refine r_isub (pc := 94) E dX8_shift_94 ?_
            refine r_put (pc := 95) (j := 3) E ok4 kc_4 rfl q_281 (r0 (.inl ok4) rfl) rfl rfl dX8_shift_95 (fun s5 es5 => ?_)
            have h := h s5 es5
            refine r_aload (pc := 98) E dX8_shift_98 rfl ?_
            refine r_dup (pc := 100) E dX8_shift_100 rfl ?_
            refine r_get (pc := 101) (j := 3) E ok2 kc_4 rfl q_281 (svI (r0 (.inl ok2) rfl)) dX8_shift_101 ?_
            refine r_aload_n (pc := 104) E dX8_shift_104 rfl rfl ?_
            refine r_get (pc := 105) (j := 3) E ok1 kc_6 rfl q_100 (svI (r0 (.inr ok1) rfl)) dX8_shift_105 ?_
            refine r_iadd (pc := 108) E dX8_shift_108 ?_
            refine r_put (pc := 109) (j := 3) E ok2 kc_4 rfl q_281 (r0 (.inl ok2) rfl) rfl rfl dX8_shift_109 (fun s6 es6 => ?_)
            have h := h s6 es6
            refine r_aload_n (pc := 112) E dX8_shift_112 rfl rfl ?_
            refine r_iload_n (pc := 113) E dX8_shift_113 rfl rfl ?_
            refine r_put (pc := 114) (j := 1) E ok1 kc_6 rfl q_97 (r0 (.inr ok1) rfl) rfl rfl dX8_shift_114 (fun s7 es7 => ?_)
            have h := h s7 es7
            refine r_iconst (pc := 117) (v := 1) E dX8_shift_117 (by decide) ?_
            exact r_iret (pc := 118) E hr dX8_shift_118 h
          · have h := h.2 c4
            refine r_ldc (pc := 74) (v := (-1000003)) E q_360 dX8_shift_74 ?_
            exact r_iret (pc := 76) E hr dX8_shift_76 h
        · have h := h.2 c3
          refine r_ldc (pc := 59) (v := (-1000002)) E q_382 dX8_shift_59 ?_
          exact r_iret (pc := 61) E hr dX8_shift_61 h
      · have h := h.2 c2
        refine r_ldc (pc := 29) (v := (-1000001)) E q_359 dX8_shift_29 ?_
        exact r_iret (pc := 31) E hr dX8_shift_31 h

/-! ChairFront.ticket -/
def rm_X8_ticket : Room := { frames := 1, cells := 0, slots := 0, locals := 22 }
theorem ci_X8_ticket : CI yX8_ticket RX8 cX8_ticket 4 (some .int) 2 := ⟨q_424, q_425, q_55, q_426, by decide +kernel⟩
def w_X8_ticket (s0 : ST) (a1 : Int32) (a2 : Int32) (Q : Int32 → ST → Prop) : Prop := w_X7_find s0 a1 (fun r1 s1 => ((r1 = none → (Q (-1000001) s1)) ∧ (∀ k1 : Nat, r1 = some k1 → okc 6 k1 ∧ (((a2 = 0 → (Q (s1 k1 1) s1)) ∧ (¬ a2 = 0 → ((a2 = 1 → (Q (s1 k1 3) s1)) ∧ (¬ a2 = 1 → ((a2 = 2 → (Q (s1 k1 4) s1)) ∧ (¬ a2 = 2 → ((a2 = 3 → (Q (s1 k1 6) s1)) ∧ (¬ a2 = 3 → (Q (-1000001) s1)))))))))))))
set_option maxRecDepth 100000 in
set_option maxHeartbeats 4000000 in
theorem c_X8_ticket {l : Launch} (X : XT) (s0 : ST) (a1 : Int32) (a2 : Int32) (Q : Int32 → ST → Prop) (h : w_X8_ticket s0 a1 a2 Q) : MetI l yX8_ticket (wS yX8_ticket cX8_ticket 4 (some .int)) rm_X8_ticket X s0 [.ref (xa X 0), .int a1, .int a2] Q := by
  refine metG (own := RX8) (k := 1) (lv0 := [some (.ref (xa X 0)), some (.int a1), some (.int a2), none]) (by decide) rfl rfl rfl ?_
  intro p e s m args below meth c E hr
  refine r_aload_n (pc := 0) E dX8_ticket_0 rfl rfl ?_
  refine r_get (pc := 1) (j := 9) (v := .ref (xa X 2)) E ok_0 kc_8 rfl q_312 rfl dX8_ticket_1 ?_
  refine r_iload_n (pc := 4) E dX8_ticket_4 rfl rfl ?_
  refine afterO (pc := 5) E (fun H locs ls hP hS hl => runV (As := [.int a1]) (rest := []) E (c_X7_find X _ _ _  h) ok_2 kc_7.1 ci_X7_find q_415 rfl rfl rfl rfl dX8_ticket_5 hP hS hl) (fun r1 s1 h => ?_)
  rcases r1 with _ | k1
  · have h := h.1 rfl
    refine r_astore_nN (pc := 8) (lv' := [some (.ref (xa X 0)), some (.int a1), some (.int a2), some (.null)]) E dX8_ticket_8 rfl rfl rfl rfl ?_
    refine r_aload_nN (pc := 9) E dX8_ticket_9 rfl rfl ?_
    refine r_ifnonnullN (pc := 10) E dX8_ticket_10 ?_
    refine r_ldc (pc := 13) (v := (-1000001)) E q_359 dX8_ticket_13 ?_
    exact r_iret (pc := 15) E hr dX8_ticket_15 h
  · obtain ⟨ok1, h⟩ := h.2 k1 rfl
    refine r_astore_n (pc := 8) (lv' := [some (.ref (xa X 0)), some (.int a1), some (.int a2), some (.ref (xa X k1))]) E dX8_ticket_8 rfl rfl rfl rfl ?_
    refine r_aload_n (pc := 9) E dX8_ticket_9 rfl rfl ?_
    refine r_ifnonnull (pc := 10) (tgt := 16) E dX8_ticket_10 (by decide) ?_
    refine r_iload_n (pc := 16) E dX8_ticket_16 rfl rfl ?_
    by_cases c1 : a2 = 0
    · have h := h.1 c1
      refine r_tabIn (pc := 17) (tgt := 48) (off := 31) (v := 0) E c1 dX8_ticket_17 (by decide) (by decide) (by decide) (by decide) ?_
      refine r_aload_n (pc := 48) E dX8_ticket_48 rfl rfl ?_
      refine r_get (pc := 49) (j := 1) E ok1 kc_6 rfl q_97 (svI (r0 (.inr ok1) rfl)) dX8_ticket_49 ?_
      exact r_iret (pc := 52) E hr dX8_ticket_52 h
    have h := h.2 c1
    by_cases c2 : a2 = 1
    · have h := h.1 c2
      refine r_tabIn (pc := 17) (tgt := 53) (off := 36) (v := 1) E c2 dX8_ticket_17 (by decide) (by decide) (by decide) (by decide) ?_
      refine r_aload_n (pc := 53) E dX8_ticket_53 rfl rfl ?_
      refine r_get (pc := 54) (j := 3) E ok1 kc_6 rfl q_100 (svI (r0 (.inr ok1) rfl)) dX8_ticket_54 ?_
      exact r_iret (pc := 57) E hr dX8_ticket_57 h
    have h := h.2 c2
    by_cases c3 : a2 = 2
    · have h := h.1 c3
      refine r_tabIn (pc := 17) (tgt := 58) (off := 41) (v := 2) E c3 dX8_ticket_17 (by decide) (by decide) (by decide) (by decide) ?_
      refine r_aload_n (pc := 58) E dX8_ticket_58 rfl rfl ?_
      refine r_get (pc := 59) (j := 4) E ok1 kc_6 rfl q_101 (svI (r0 (.inr ok1) rfl)) dX8_ticket_59 ?_
      exact r_iret (pc := 62) E hr dX8_ticket_62 h
    have h := h.2 c3
    by_cases c4 : a2 = 3
    · have h := h.1 c4
      refine r_tabIn (pc := 17) (tgt := 63) (off := 46) (v := 3) E c4 dX8_ticket_17 (by decide) (by decide) (by decide) (by decide) ?_
      refine r_aload_n (pc := 63) E dX8_ticket_63 rfl rfl ?_
      refine r_get (pc := 64) (j := 6) E ok1 kc_6 rfl q_103 (svI (r0 (.inr ok1) rfl)) dX8_ticket_64 ?_
      exact r_iret (pc := 67) E hr dX8_ticket_67 h
    have h := h.2 c4
    refine r_tabOut (pc := 17) (tgt := 68) E 0 4 (by decide) (fun j hj => match j, hj with | 0, _ => c1 | 1, _ => c2 | 2, _ => c3 | 3, _ => c4 | j + 4, hj => absurd hj (by omega)) dX8_ticket_17 (by decide) (by decide) (by decide) ?_
    refine r_ldc (pc := 68) (v := (-1000001)) E q_359 dX8_ticket_68 ?_
    exact r_iret (pc := 70) E hr dX8_ticket_70 h

/-! ChairFront.endTicket -/
def rm_X8_endTicket : Room := { frames := 0, cells := 0, slots := 0, locals := 0 }
theorem ci_X8_endTicket : CI yX8_endTicket RX8 cX8_endTicket 2 none 1 := ⟨q_437, q_5, q_55, q_438, by decide +kernel⟩
def w_X8_endTicket (s0 : ST) (a1 : Nat) (Q : ST → Prop) : Prop := vp_in (s0 a1 1) 10 ∧ (∀ k1 : Nat, k1 = 23 + (s0 a1 1).toNatClampNeg → (∀ s1 : ST, s1 = up s0 k1 3 ((s0 k1 3) - (s0 a1 3)) → (∀ s2 : ST, s2 = up s1 a1 3 0 → (Q s2))))
set_option maxRecDepth 100000 in
set_option maxHeartbeats 4000000 in
theorem c_X8_endTicket {l : Launch} (X : XT) (s0 : ST) (a1 : Nat) (Q : ST → Prop) (ha1 : okc 6 a1) (h : w_X8_endTicket s0 a1 Q) : MetV l yX8_endTicket (wS yX8_endTicket cX8_endTicket 2 none) rm_X8_endTicket X s0 [.ref (xa X 0), .ref (xa X a1)] Q := by
  refine metG (own := RX8) (k := 0) (lv0 := [some (.ref (xa X 0)), some (.ref (xa X a1))]) (by decide) rfl rfl rfl ?_
  intro p e s m args below meth c E hr
  refine r_aload_n (pc := 0) E dX8_endTicket_0 rfl rfl ?_
  refine r_get (pc := 1) (j := 8) (v := .ref (xa X 1)) E ok_0 kc_8 rfl q_311 rfl dX8_endTicket_1 ?_
  refine r_aload_n (pc := 4) E dX8_endTicket_4 rfl rfl ?_
  refine r_get (pc := 5) (j := 1) E ha1 kc_6 rfl q_97 (svI (r0 (.inr ha1) rfl)) dX8_endTicket_5 ?_
  refine r_aldSn (pc := 8) E h.1 dX8_endTicket_8 (fun k1 ek1 ok1 => ?_)
  have h := h.2 k1 ek1
  refine r_dup (pc := 9) E dX8_endTicket_9 rfl ?_
  refine r_get (pc := 10) (j := 3) E ok1 kc_4 rfl q_281 (svI (r0 (.inl ok1) rfl)) dX8_endTicket_10 ?_
  refine r_aload_n (pc := 13) E dX8_endTicket_13 rfl rfl ?_
  refine r_get (pc := 14) (j := 3) E ha1 kc_6 rfl q_100 (svI (r0 (.inr ha1) rfl)) dX8_endTicket_14 ?_
  refine r_isub (pc := 17) E dX8_endTicket_17 ?_
  refine r_put (pc := 18) (j := 3) E ok1 kc_4 rfl q_281 (r0 (.inl ok1) rfl) rfl rfl dX8_endTicket_18 (fun s1 es1 => ?_)
  have h := h s1 es1
  refine r_aload_n (pc := 21) E dX8_endTicket_21 rfl rfl ?_
  refine r_iconst (pc := 22) (v := 0) E dX8_endTicket_22 (by decide) ?_
  refine r_put (pc := 23) (j := 3) E ha1 kc_6 rfl q_100 (r0 (.inr ha1) rfl) rfl rfl dX8_endTicket_23 (fun s2 es2 => ?_)
  have h := h s2 es2
  exact r_vret (pc := 26) E hr dX8_endTicket_26 h

/-! ChairFront.takeByTide -/
def rm_X8_takeByTide : Room := { frames := 1, cells := 0, slots := 0, locals := 21 }
theorem ci_X8_takeByTide : CI yX8_takeByTide RX8 cX8_takeByTide 4 none 1 := ⟨q_433, q_4, q_55, q_434, by decide +kernel⟩
def w_X8_takeByTide_L2 (v1 : Int32) (K : ST → Prop) (Q : ST → Prop) : Nat → ST → Int32 → Prop
  | 0, _, _ => False
  | n + 1, s0, v2 => (((s0 2 1) ≤ v2 → (K s0)) ∧ (¬ ((s0 2 1) ≤ v2) → (vp_in v2 30 ∧ ((s0 3 v2.toNatClampNeg).toNatClampNeg < 30 ∧ (∀ k1 : Nat, k1 = 33 + (s0 3 v2.toNatClampNeg).toNatClampNeg → (vp_in (s0 k1 1) 10 ∧ (∀ k2 : Nat, k2 = 23 + (s0 k1 1).toNatClampNeg → (((v1 < (s0 k2 0) → (∀ x1 : Int32, x1 = v2 + 1 → (w_X8_takeByTide_L2 v1 K Q n s0 x1))) ∧ (¬ (v1 < (s0 k2 0)) → (w_X8_endTicket s0 k1 (fun s1 => ∀ x2 : Int32, x2 = v2 + 1 → (w_X8_takeByTide_L2 v1 K Q n s1 x2)))))))))))))
set_option maxRecDepth 100000 in
set_option maxHeartbeats 4000000 in
theorem t_X8_takeByTide_L2 {p : Program} {l : Launch} {e : Env} {s : State} {m : MethodId} {args : Array Value} {below : List Frame} {meth : Method} {c : Code} {X : XT} (E : Ev p rm_X8_takeByTide s m args meth c X (xA X) 4 0 0 cX8_takeByTide RX8) (hr : meth.sig.returnType = none) {v1 : Int32} {K : ST → Prop} {Q : ST → Prop} (hK : ∀ (s0 : ST), K s0 → G p l e rm_X8_takeByTide s m args below meth c X (xA X) 4 0 0 (MQ below (va_Qv Q (Bw X) (xA X)) args s 0 0 (xA X)) s0 50 [some (.ref (xa X 0)), some (.int v1), none, none] []) : ∀ (n : Nat) (s0 : ST) (v2 : Int32), w_X8_takeByTide_L2 v1 K Q n s0 v2 → G p l e rm_X8_takeByTide s m args below meth c X (xA X) 4 0 0 (MQ below (va_Qv Q (Bw X) (xA X)) args s 0 0 (xA X)) s0 2 [some (.ref (xa X 0)), some (.int v1), some (.int v2), none] [] := by
  intro n
  induction n with
  | zero => intro s0 v2 h; exact h.elim
  | succ n ih =>
    intro s0 v2 h
    refine r_iload_n (pc := 2) E dX8_takeByTide_2 rfl rfl ?_
    refine r_aload_n (pc := 3) E dX8_takeByTide_3 rfl rfl ?_
    refine r_get (pc := 4) (j := 9) (v := .ref (xa X 2)) E ok_0 kc_8 rfl q_312 rfl dX8_takeByTide_4 ?_
    refine r_get (pc := 7) (j := 1) E ok_2 kc_7 rfl q_122 (svI rfl) dX8_takeByTide_7 ?_
    refine r_icmp_ge (pc := 10) (tgt := 50) E dX8_takeByTide_10 (by decide) (fun c1 => ?_) (fun c1 => ?_)
    · have h := h.1 c1
      exact r_forget (le_s (le_s (le_n (le_n le_0)))) (hK _  h)
    · have h := h.2 c1
      refine r_aload_n (pc := 13) E dX8_takeByTide_13 rfl rfl ?_
      refine r_get (pc := 14) (j := 9) (v := .ref (xa X 2)) E ok_0 kc_8 rfl q_312 rfl dX8_takeByTide_14 ?_
      refine r_get (pc := 17) (j := 0) (v := .ref (xa X 3)) E ok_2 kc_7 rfl q_120 rfl dX8_takeByTide_17 ?_
      refine r_iload_n (pc := 20) E dX8_takeByTide_20 rfl rfl ?_
      refine r_aldTn (pc := 21) E h.1 h.2.1 dX8_takeByTide_21 (fun k1 ek1 ok1 => ?_)
      have h := h.2.2 k1 ek1
      refine r_astore_n (pc := 22) (lv' := [some (.ref (xa X 0)), some (.int v1), some (.int v2), some (.ref (xa X k1))]) E dX8_takeByTide_22 rfl rfl rfl rfl ?_
      refine r_aload_n (pc := 23) E dX8_takeByTide_23 rfl rfl ?_
      refine r_get (pc := 24) (j := 8) (v := .ref (xa X 1)) E ok_0 kc_8 rfl q_311 rfl dX8_takeByTide_24 ?_
      refine r_aload_n (pc := 27) E dX8_takeByTide_27 rfl rfl ?_
      refine r_get (pc := 28) (j := 1) E ok1 kc_6 rfl q_97 (svI (r0 (.inr ok1) rfl)) dX8_takeByTide_28 ?_
      refine r_aldSn (pc := 31) E h.1 dX8_takeByTide_31 (fun k2 ek2 ok2 => ?_)
      have h := h.2 k2 ek2
      refine r_get (pc := 32) (j := 0) E ok2 kc_4 rfl q_273 (svI (r0 (.inl ok2) rfl)) dX8_takeByTide_32 ?_
      refine r_iload_n (pc := 35) E dX8_takeByTide_35 rfl rfl ?_
      refine r_icmp_gt (pc := 36) (tgt := 44) E dX8_takeByTide_36 (by decide) (fun c2 => ?_) (fun c2 => ?_)
      · have h := h.1 c2
        obtain ⟨x1, ex1⟩ : ∃ z : Int32, z = v2 + 1 := ⟨_, rfl⟩
        have h := h x1 ex1
        refine r_iinc (pc := 44) (v := 1) (lv' := [some (.ref (xa X 0)), some (.int v1), some (.int x1), some (.ref (xa X k1))]) E dX8_takeByTide_44 rfl (by decide) rfl rfl (by rw [ex1]; rfl) ?_
        refine r_goto (pc := 47) (tgt := 2) E dX8_takeByTide_47 (by decide) ?_
        exact r_forget (le_s (le_s (le_s (le_n le_0)))) (ih _ _ h)
      · have h := h.2 c2
        refine r_aload_n (pc := 39) E dX8_takeByTide_39 rfl rfl ?_
        refine r_aload_n (pc := 40) E dX8_takeByTide_40 rfl rfl ?_
        refine afterV (pc := 41) E (fun H locs ls hP hS hl => runV (As := [.ref (xa X k1)]) (rest := []) E (c_X8_endTicket X _ _ _ ok1 h) ok_0 kc_8.1 ci_X8_endTicket q_435 rfl rfl rfl rfl dX8_takeByTide_41 hP hS hl) (fun s1 h => ?_)
        obtain ⟨x2, ex2⟩ : ∃ z : Int32, z = v2 + 1 := ⟨_, rfl⟩
        have h := h x2 ex2
        refine r_iinc (pc := 44) (v := 1) (lv' := [some (.ref (xa X 0)), some (.int v1), some (.int x2), some (.ref (xa X k1))]) E dX8_takeByTide_44 rfl (by decide) rfl rfl (by rw [ex2]; rfl) ?_
        refine r_goto (pc := 47) (tgt := 2) E dX8_takeByTide_47 (by decide) ?_
        exact r_forget (le_s (le_s (le_s (le_n le_0)))) (ih _ _ h)

def w_X8_takeByTide_L52 (v1 : Int32) (K : ST → Prop) (Q : ST → Prop) : Nat → ST → Int32 → Prop
  | 0, _, _ => False
  | n + 1, s0, v2 => (((s0 0 7) ≤ v2 → (K s0)) ∧ (¬ ((s0 0 7) ≤ v2) → (vp_in v2 10 ∧ (∀ k3 : Nat, k3 = 23 + v2.toNatClampNeg → (((v1 < (s0 k3 0) → (∀ x3 : Int32, x3 = v2 + 1 → (w_X8_takeByTide_L52 v1 K Q n s0 x3))) ∧ (¬ (v1 < (s0 k3 0)) → (∀ s3 : ST, s3 = up s0 0 1 ((s0 0 1) + (s0 k3 2)) → (∀ s4 : ST, s4 = up s3 k3 2 0 → (∀ x4 : Int32, x4 = v2 + 1 → (w_X8_takeByTide_L52 v1 K Q n s4 x4)))))))))))
set_option maxRecDepth 100000 in
set_option maxHeartbeats 4000000 in
theorem t_X8_takeByTide_L52 {p : Program} {l : Launch} {e : Env} {s : State} {m : MethodId} {args : Array Value} {below : List Frame} {meth : Method} {c : Code} {X : XT} (E : Ev p rm_X8_takeByTide s m args meth c X (xA X) 4 0 0 cX8_takeByTide RX8) (hr : meth.sig.returnType = none) {v1 : Int32} {K : ST → Prop} {Q : ST → Prop} (hK : ∀ (s0 : ST), K s0 → G p l e rm_X8_takeByTide s m args below meth c X (xA X) 4 0 0 (MQ below (va_Qv Q (Bw X) (xA X)) args s 0 0 (xA X)) s0 99 [none, none, none, none] []) : ∀ (n : Nat) (s0 : ST) (v2 : Int32), w_X8_takeByTide_L52 v1 K Q n s0 v2 → G p l e rm_X8_takeByTide s m args below meth c X (xA X) 4 0 0 (MQ below (va_Qv Q (Bw X) (xA X)) args s 0 0 (xA X)) s0 52 [some (.ref (xa X 0)), some (.int v1), some (.int v2), none] [] := by
  intro n
  induction n with
  | zero => intro s0 v2 h; exact h.elim
  | succ n ih =>
    intro s0 v2 h
    refine r_iload_n (pc := 52) E dX8_takeByTide_52 rfl rfl ?_
    refine r_aload_n (pc := 53) E dX8_takeByTide_53 rfl rfl ?_
    refine r_get (pc := 54) (j := 7) E ok_0 kc_8 rfl q_310 (svI rfl) dX8_takeByTide_54 ?_
    refine r_icmp_ge (pc := 57) (tgt := 99) E dX8_takeByTide_57 (by decide) (fun c3 => ?_) (fun c3 => ?_)
    · have h := h.1 c3
      exact r_forget (le_n (le_n (le_n (le_n le_0)))) (hK _  h)
    · have h := h.2 c3
      refine r_aload_n (pc := 60) E dX8_takeByTide_60 rfl rfl ?_
      refine r_get (pc := 61) (j := 8) (v := .ref (xa X 1)) E ok_0 kc_8 rfl q_311 rfl dX8_takeByTide_61 ?_
      refine r_iload_n (pc := 64) E dX8_takeByTide_64 rfl rfl ?_
      refine r_aldSn (pc := 65) E h.1 dX8_takeByTide_65 (fun k3 ek3 ok3 => ?_)
      have h := h.2 k3 ek3
      refine r_astore_n (pc := 66) (lv' := [some (.ref (xa X 0)), some (.int v1), some (.int v2), some (.ref (xa X k3))]) E dX8_takeByTide_66 rfl rfl rfl rfl ?_
      refine r_aload_n (pc := 67) E dX8_takeByTide_67 rfl rfl ?_
      refine r_get (pc := 68) (j := 0) E ok3 kc_4 rfl q_273 (svI (r0 (.inl ok3) rfl)) dX8_takeByTide_68 ?_
      refine r_iload_n (pc := 71) E dX8_takeByTide_71 rfl rfl ?_
      refine r_icmp_gt (pc := 72) (tgt := 93) E dX8_takeByTide_72 (by decide) (fun c4 => ?_) (fun c4 => ?_)
      · have h := h.1 c4
        obtain ⟨x3, ex3⟩ : ∃ z : Int32, z = v2 + 1 := ⟨_, rfl⟩
        have h := h x3 ex3
        refine r_iinc (pc := 93) (v := 1) (lv' := [some (.ref (xa X 0)), some (.int v1), some (.int x3), some (.ref (xa X k3))]) E dX8_takeByTide_93 rfl (by decide) rfl rfl (by rw [ex3]; rfl) ?_
        refine r_goto (pc := 96) (tgt := 52) E dX8_takeByTide_96 (by decide) ?_
        exact r_forget (le_s (le_s (le_s (le_n le_0)))) (ih _ _ h)
      · have h := h.2 c4
        refine r_aload_n (pc := 75) E dX8_takeByTide_75 rfl rfl ?_
        refine r_dup (pc := 76) E dX8_takeByTide_76 rfl ?_
        refine r_get (pc := 77) (j := 1) E ok_0 kc_8 rfl q_304 (svI rfl) dX8_takeByTide_77 ?_
        refine r_aload_n (pc := 80) E dX8_takeByTide_80 rfl rfl ?_
        refine r_get (pc := 81) (j := 2) E ok3 kc_4 rfl q_279 (svI (r0 (.inl ok3) rfl)) dX8_takeByTide_81 ?_
        refine r_iadd (pc := 84) E dX8_takeByTide_84 ?_
        refine r_put (pc := 85) (j := 1) E ok_0 kc_8 rfl q_304 rfl rfl rfl dX8_takeByTide_85 (fun s3 es3 => ?_)
        have h := h s3 es3
        refine r_aload_n (pc := 88) E dX8_takeByTide_88 rfl rfl ?_
        refine r_iconst (pc := 89) (v := 0) E dX8_takeByTide_89 (by decide) ?_
        refine r_put (pc := 90) (j := 2) E ok3 kc_4 rfl q_279 (r0 (.inl ok3) rfl) rfl rfl dX8_takeByTide_90 (fun s4 es4 => ?_)
        have h := h s4 es4
        obtain ⟨x4, ex4⟩ : ∃ z : Int32, z = v2 + 1 := ⟨_, rfl⟩
        have h := h x4 ex4
        refine r_iinc (pc := 93) (v := 1) (lv' := [some (.ref (xa X 0)), some (.int v1), some (.int x4), some (.ref (xa X k3))]) E dX8_takeByTide_93 rfl (by decide) rfl rfl (by rw [ex4]; rfl) ?_
        refine r_goto (pc := 96) (tgt := 52) E dX8_takeByTide_96 (by decide) ?_
        exact r_forget (le_s (le_s (le_s (le_n le_0)))) (ih _ _ h)

def w_X8_takeByTide (s0 : ST) (a1 : Int32) (Q : ST → Prop) : Prop := ∃ n1 : Nat, w_X8_takeByTide_L2 a1 (fun (s2 : ST) => ∃ n2 : Nat, w_X8_takeByTide_L52 a1 (fun (s5 : ST) => Q s5) Q n2 s2 0) Q n1 s0 0
set_option maxRecDepth 100000 in
set_option maxHeartbeats 4000000 in
theorem c_X8_takeByTide {l : Launch} (X : XT) (s0 : ST) (a1 : Int32) (Q : ST → Prop) (h : w_X8_takeByTide s0 a1 Q) : MetV l yX8_takeByTide (wS yX8_takeByTide cX8_takeByTide 4 none) rm_X8_takeByTide X s0 [.ref (xa X 0), .int a1] Q := by
  refine metG (own := RX8) (k := 2) (lv0 := [some (.ref (xa X 0)), some (.int a1), none, none]) (by decide) rfl rfl rfl ?_
  intro p e s m args below meth c E hr
  refine r_iconst (pc := 0) (v := 0) E dX8_takeByTide_0 (by decide) ?_
  refine r_istore_n (pc := 1) (lv' := [some (.ref (xa X 0)), some (.int a1), some (.int 0), none]) E dX8_takeByTide_1 rfl rfl rfl rfl ?_
  obtain ⟨n1, h⟩ := h
  refine r_forget (le_s (le_s (le_s (le_n le_0)))) (t_X8_takeByTide_L2 E hr ?_ n1 _ _ h)
  intro s2 h
  refine r_iconst (pc := 50) (v := 0) E dX8_takeByTide_50 (by decide) ?_
  refine r_istore_n (pc := 51) (lv' := [some (.ref (xa X 0)), some (.int a1), some (.int 0), none]) E dX8_takeByTide_51 rfl rfl rfl rfl ?_
  obtain ⟨n2, h⟩ := h
  refine r_forget (le_s (le_s (le_s (le_n le_0)))) (t_X8_takeByTide_L52 E hr ?_ n2 _ _ h)
  intro s5 h
  exact r_vret (pc := 99) E hr dX8_takeByTide_99 h

/-! ChairFront.endAllByWind -/
def rm_X8_endAllByWind : Room := { frames := 1, cells := 0, slots := 0, locals := 21 }
theorem ci_X8_endAllByWind : CI yX8_endAllByWind RX8 cX8_endAllByWind 3 none 0 := ⟨q_441, q_6, q_55, q_442, by decide +kernel⟩
def w_X8_endAllByWind_L2 (K : ST → Prop) (Q : ST → Prop) : Nat → ST → Int32 → Prop
  | 0, _, _ => False
  | n + 1, s0, v1 => (((s0 2 1) ≤ v1 → (K s0)) ∧ (¬ ((s0 2 1) ≤ v1) → (vp_in v1 30 ∧ ((s0 3 v1.toNatClampNeg).toNatClampNeg < 30 ∧ (∀ k1 : Nat, k1 = 33 + (s0 3 v1.toNatClampNeg).toNatClampNeg → (∀ s1 : ST, s1 = up s0 2 4 ((s0 2 4) + (((s0 k1 5) * (s0 k1 3)) * (s0 k1 4))) → (w_X8_endTicket s1 k1 (fun s2 => ∀ x1 : Int32, x1 = v1 + 1 → (w_X8_endAllByWind_L2 K Q n s2 x1)))))))))
set_option maxRecDepth 100000 in
set_option maxHeartbeats 4000000 in
theorem t_X8_endAllByWind_L2 {p : Program} {l : Launch} {e : Env} {s : State} {m : MethodId} {args : Array Value} {below : List Frame} {meth : Method} {c : Code} {X : XT} (E : Ev p rm_X8_endAllByWind s m args meth c X (xA X) 3 0 0 cX8_endAllByWind RX8) (hr : meth.sig.returnType = none) {K : ST → Prop} {Q : ST → Prop} (hK : ∀ (s0 : ST), K s0 → G p l e rm_X8_endAllByWind s m args below meth c X (xA X) 3 0 0 (MQ below (va_Qv Q (Bw X) (xA X)) args s 0 0 (xA X)) s0 60 [none, none, none] []) : ∀ (n : Nat) (s0 : ST) (v1 : Int32), w_X8_endAllByWind_L2 K Q n s0 v1 → G p l e rm_X8_endAllByWind s m args below meth c X (xA X) 3 0 0 (MQ below (va_Qv Q (Bw X) (xA X)) args s 0 0 (xA X)) s0 2 [some (.ref (xa X 0)), some (.int v1), none] [] := by
  intro n
  induction n with
  | zero => intro s0 v1 h; exact h.elim
  | succ n ih =>
    intro s0 v1 h
    refine r_iload_n (pc := 2) E dX8_endAllByWind_2 rfl rfl ?_
    refine r_aload_n (pc := 3) E dX8_endAllByWind_3 rfl rfl ?_
    refine r_get (pc := 4) (j := 9) (v := .ref (xa X 2)) E ok_0 kc_8 rfl q_312 rfl dX8_endAllByWind_4 ?_
    refine r_get (pc := 7) (j := 1) E ok_2 kc_7 rfl q_122 (svI rfl) dX8_endAllByWind_7 ?_
    refine r_icmp_ge (pc := 10) (tgt := 60) E dX8_endAllByWind_10 (by decide) (fun c1 => ?_) (fun c1 => ?_)
    · have h := h.1 c1
      exact r_forget (le_n (le_n (le_n le_0))) (hK _  h)
    · have h := h.2 c1
      refine r_aload_n (pc := 13) E dX8_endAllByWind_13 rfl rfl ?_
      refine r_get (pc := 14) (j := 9) (v := .ref (xa X 2)) E ok_0 kc_8 rfl q_312 rfl dX8_endAllByWind_14 ?_
      refine r_get (pc := 17) (j := 0) (v := .ref (xa X 3)) E ok_2 kc_7 rfl q_120 rfl dX8_endAllByWind_17 ?_
      refine r_iload_n (pc := 20) E dX8_endAllByWind_20 rfl rfl ?_
      refine r_aldTn (pc := 21) E h.1 h.2.1 dX8_endAllByWind_21 (fun k1 ek1 ok1 => ?_)
      have h := h.2.2 k1 ek1
      refine r_astore_n (pc := 22) (lv' := [some (.ref (xa X 0)), some (.int v1), some (.ref (xa X k1))]) E dX8_endAllByWind_22 rfl rfl rfl rfl ?_
      refine r_aload_n (pc := 23) E dX8_endAllByWind_23 rfl rfl ?_
      refine r_get (pc := 24) (j := 9) (v := .ref (xa X 2)) E ok_0 kc_8 rfl q_312 rfl dX8_endAllByWind_24 ?_
      refine r_dup (pc := 27) E dX8_endAllByWind_27 rfl ?_
      refine r_get (pc := 28) (j := 4) E ok_2 kc_7 rfl q_126 (svI rfl) dX8_endAllByWind_28 ?_
      refine r_aload_n (pc := 31) E dX8_endAllByWind_31 rfl rfl ?_
      refine r_get (pc := 32) (j := 5) E ok1 kc_6 rfl q_102 (svI (r0 (.inr ok1) rfl)) dX8_endAllByWind_32 ?_
      refine r_aload_n (pc := 35) E dX8_endAllByWind_35 rfl rfl ?_
      refine r_get (pc := 36) (j := 3) E ok1 kc_6 rfl q_100 (svI (r0 (.inr ok1) rfl)) dX8_endAllByWind_36 ?_
      refine r_imul (pc := 39) E dX8_endAllByWind_39 ?_
      refine r_aload_n (pc := 40) E dX8_endAllByWind_40 rfl rfl ?_
      refine r_get (pc := 41) (j := 4) E ok1 kc_6 rfl q_101 (svI (r0 (.inr ok1) rfl)) dX8_endAllByWind_41 ?_
      refine r_imul (pc := 44) E dX8_endAllByWind_44 ?_
      refine r_iadd (pc := 45) E dX8_endAllByWind_45 ?_
      refine r_put (pc := 46) (j := 4) E ok_2 kc_7 rfl q_126 rfl rfl rfl dX8_endAllByWind_46 (fun s1 es1 => ?_)
      have h := h s1 es1
      refine r_aload_n (pc := 49) E dX8_endAllByWind_49 rfl rfl ?_
      refine r_aload_n (pc := 50) E dX8_endAllByWind_50 rfl rfl ?_
      refine afterV (pc := 51) E (fun H locs ls hP hS hl => runV (As := [.ref (xa X k1)]) (rest := []) E (c_X8_endTicket X _ _ _ ok1 h) ok_0 kc_8.1 ci_X8_endTicket q_435 rfl rfl rfl rfl dX8_endAllByWind_51 hP hS hl) (fun s2 h => ?_)
      obtain ⟨x1, ex1⟩ : ∃ z : Int32, z = v1 + 1 := ⟨_, rfl⟩
      have h := h x1 ex1
      refine r_iinc (pc := 54) (v := 1) (lv' := [some (.ref (xa X 0)), some (.int x1), some (.ref (xa X k1))]) E dX8_endAllByWind_54 rfl (by decide) rfl rfl (by rw [ex1]; rfl) ?_
      refine r_goto (pc := 57) (tgt := 2) E dX8_endAllByWind_57 (by decide) ?_
      exact r_forget (le_s (le_s (le_n le_0))) (ih _ _ h)

def w_X8_endAllByWind (s0 : ST) (Q : ST → Prop) : Prop := ∃ n1 : Nat, w_X8_endAllByWind_L2 (fun (s3 : ST) => Q s3) Q n1 s0 0
set_option maxRecDepth 100000 in
set_option maxHeartbeats 4000000 in
theorem c_X8_endAllByWind {l : Launch} (X : XT) (s0 : ST) (Q : ST → Prop) (h : w_X8_endAllByWind s0 Q) : MetV l yX8_endAllByWind (wS yX8_endAllByWind cX8_endAllByWind 3 none) rm_X8_endAllByWind X s0 [.ref (xa X 0)] Q := by
  refine metG (own := RX8) (k := 2) (lv0 := [some (.ref (xa X 0)), none, none]) (by decide) rfl rfl rfl ?_
  intro p e s m args below meth c E hr
  refine r_iconst (pc := 0) (v := 0) E dX8_endAllByWind_0 (by decide) ?_
  refine r_istore_n (pc := 1) (lv' := [some (.ref (xa X 0)), some (.int 0), none]) E dX8_endAllByWind_1 rfl rfl rfl rfl ?_
  obtain ⟨n1, h⟩ := h
  refine r_forget (le_s (le_s (le_n le_0))) (t_X8_endAllByWind_L2 E hr ?_ n1 _ _ h)
  intro s3 h
  exact r_vret (pc := 60) E hr dX8_endAllByWind_60 h

/-! ChairFront$Rules.partOfRain -/
def rm_X3_partOfRain : Room := { frames := 0, cells := 0, slots := 0, locals := 0 }
theorem ci_X3_partOfRain : CI yX3_partOfRain RX3 cX3_partOfRain 3 (some .int) 1 := ⟨q_448, q_449, q_60, q_450, by decide +kernel⟩
def w_X3_partOfRain_L2 (v0 : Nat) (v1 : Int32) (K : ST → Prop) (Q : Int32 → ST → Prop) : Nat → ST → Int32 → Prop
  | 0, _, _ => False
  | n + 1, s0, v2 => (((s0 v0 2) ≤ v2 → (K s0)) ∧ (¬ ((s0 v0 2) ≤ v2) → (vp_in v2 5 ∧ (((v1 < (s0 (4 * v0 - 18 + 0 - 1) v2.toNatClampNeg) → (∀ x1 : Int32, x1 = v2 + 1 → (w_X3_partOfRain_L2 v0 v1 K Q n s0 x1))) ∧ (¬ (v1 < (s0 (4 * v0 - 18 + 0 - 1) v2.toNatClampNeg)) → (vp_in v2 5 ∧ (Q (s0 (4 * v0 - 18 + 1 - 1) v2.toNatClampNeg) s0))))))))
set_option maxRecDepth 100000 in
set_option maxHeartbeats 4000000 in
theorem t_X3_partOfRain_L2 {p : Program} {l : Launch} {e : Env} {s : State} {m : MethodId} {args : Array Value} {below : List Frame} {meth : Method} {c : Code} {X : XT} (E : Ev p rm_X3_partOfRain s m args meth c X (xA X) 3 0 0 cX3_partOfRain RX3) (hr : meth.sig.returnType = (some .int)) {v0 : Nat} {v1 : Int32} {K : ST → Prop} {Q : Int32 → ST → Prop} (ho0 : okc 3 v0) (hK : ∀ (s0 : ST), K s0 → G p l e rm_X3_partOfRain s m args below meth c X (xA X) 3 0 0 (MQ below (va_Qi Q (Bw X) (xA X)) args s 0 0 (xA X)) s0 33 [none, none, none] []) : ∀ (n : Nat) (s0 : ST) (v2 : Int32), w_X3_partOfRain_L2 v0 v1 K Q n s0 v2 → G p l e rm_X3_partOfRain s m args below meth c X (xA X) 3 0 0 (MQ below (va_Qi Q (Bw X) (xA X)) args s 0 0 (xA X)) s0 2 [some (.ref (xa X v0)), some (.int v1), some (.int v2)] [] := by
  intro n
  induction n with
  | zero => intro s0 v2 h; exact h.elim
  | succ n ih =>
    intro s0 v2 h
    refine r_iload_n (pc := 2) E dX3_partOfRain_2 rfl rfl ?_
    refine r_aload_n (pc := 3) E dX3_partOfRain_3 rfl rfl ?_
    refine r_get (pc := 4) (j := 2) E ho0 kc_3 rfl q_202 (svI (r0R ho0 rfl)) dX3_partOfRain_4 ?_
    refine r_icmp_ge (pc := 7) (tgt := 33) E dX3_partOfRain_7 (by decide) (fun c1 => ?_) (fun c1 => ?_)
    · have h := h.1 c1
      exact r_forget (le_n (le_n (le_n le_0))) (hK _  h)
    · have h := h.2 c1
      refine r_iload_n (pc := 10) E dX3_partOfRain_10 rfl rfl ?_
      refine r_aload_n (pc := 11) E dX3_partOfRain_11 rfl rfl ?_
      refine r_get (pc := 12) (j := 4) E ho0 kc_3 rfl q_206 (svR ho0 0 rfl) dX3_partOfRain_12 ?_
      refine r_iload_n (pc := 15) E dX3_partOfRain_15 rfl rfl ?_
      refine r_iald (pc := 16) (n := 5) E (okRA ho0 0 rfl) (lnRA ho0 0 rfl) h.1 dX3_partOfRain_16 ?_
      have h := h.2
      refine r_icmp_lt (pc := 17) (tgt := 27) E dX3_partOfRain_17 (by decide) (fun c2 => ?_) (fun c2 => ?_)
      · have h := h.1 c2
        obtain ⟨x1, ex1⟩ : ∃ z : Int32, z = v2 + 1 := ⟨_, rfl⟩
        have h := h x1 ex1
        refine r_iinc (pc := 27) (v := 1) (lv' := [some (.ref (xa X v0)), some (.int v1), some (.int x1)]) E dX3_partOfRain_27 rfl (by decide) rfl rfl (by rw [ex1]; rfl) ?_
        refine r_goto (pc := 30) (tgt := 2) E dX3_partOfRain_30 (by decide) ?_
        exact r_forget (le_s (le_s (le_s le_0))) (ih _ _ h)
      · have h := h.2 c2
        refine r_aload_n (pc := 20) E dX3_partOfRain_20 rfl rfl ?_
        refine r_get (pc := 21) (j := 5) E ho0 kc_3 rfl q_207 (svR ho0 1 rfl) dX3_partOfRain_21 ?_
        refine r_iload_n (pc := 24) E dX3_partOfRain_24 rfl rfl ?_
        refine r_iald (pc := 25) (n := 5) E (okRA ho0 1 rfl) (lnRA ho0 1 rfl) h.1 dX3_partOfRain_25 ?_
        have h := h.2
        exact r_iret (pc := 26) E hr dX3_partOfRain_26 h

def w_X3_partOfRain (s0 : ST) (k0 : Nat) (a1 : Int32) (Q : Int32 → ST → Prop) : Prop := ∃ n1 : Nat, w_X3_partOfRain_L2 k0 a1 (fun (s1 : ST) => Q 0 s1) Q n1 s0 0
set_option maxRecDepth 100000 in
set_option maxHeartbeats 4000000 in
theorem c_X3_partOfRain {l : Launch} (X : XT) (s0 : ST) (k0 : Nat) (a1 : Int32) (Q : Int32 → ST → Prop) (hk0 : okc 3 k0) (h : w_X3_partOfRain s0 k0 a1 Q) : MetI l yX3_partOfRain (wS yX3_partOfRain cX3_partOfRain 3 (some .int)) rm_X3_partOfRain X s0 [.ref (xa X k0), .int a1] Q := by
  refine metG (own := RX3) (k := 1) (lv0 := [some (.ref (xa X k0)), some (.int a1), none]) (by decide) rfl rfl rfl ?_
  intro p e s m args below meth c E hr
  refine r_iconst (pc := 0) (v := 0) E dX3_partOfRain_0 (by decide) ?_
  refine r_istore_n (pc := 1) (lv' := [some (.ref (xa X k0)), some (.int a1), some (.int 0)]) E dX3_partOfRain_1 rfl rfl rfl rfl ?_
  obtain ⟨n1, h⟩ := h
  refine r_forget (le_s (le_s (le_s le_0))) (t_X3_partOfRain_L2 E hr hk0 ?_ n1 _ _ h)
  intro s1 h
  refine r_iconst (pc := 33) (v := 0) E dX3_partOfRain_33 (by decide) ?_
  exact r_iret (pc := 34) E hr dX3_partOfRain_34 h

/-! ChairFront.payBackRain -/
def rm_X8_payBackRain : Room := { frames := 1, cells := 0, slots := 0, locals := 22 }
theorem ci_X8_payBackRain : CI yX8_payBackRain RX8 cX8_payBackRain 5 none 1 := ⟨q_445, q_7, q_55, q_446, by decide +kernel⟩
def w_X8_payBackRain_L11 (v2 : Int32) (K : ST → Prop) (Q : ST → Prop) : Nat → ST → Int32 → Prop
  | 0, _, _ => False
  | n + 1, s0, v3 => (((s0 2 1) ≤ v3 → (K s0)) ∧ (¬ ((s0 2 1) ≤ v3) → (vp_in v3 30 ∧ ((s0 3 v3.toNatClampNeg).toNatClampNeg < 30 ∧ (∀ k2 : Nat, k2 = 33 + (s0 3 v3.toNatClampNeg).toNatClampNeg → (∀ s2 : ST, s2 = up s0 2 4 ((s0 2 4) + ((((s0 k2 5) * (s0 k2 3)) * v2) / 100)) → (∀ x1 : Int32, x1 = v3 + 1 → (w_X8_payBackRain_L11 v2 K Q n s2 x1))))))))
set_option maxRecDepth 100000 in
set_option maxHeartbeats 4000000 in
theorem t_X8_payBackRain_L11 {p : Program} {l : Launch} {e : Env} {s : State} {m : MethodId} {args : Array Value} {below : List Frame} {meth : Method} {c : Code} {X : XT} (E : Ev p rm_X8_payBackRain s m args meth c X (xA X) 5 0 0 cX8_payBackRain RX8) (hr : meth.sig.returnType = none) {v2 : Int32} {K : ST → Prop} {Q : ST → Prop} (hK : ∀ (s0 : ST), K s0 → G p l e rm_X8_payBackRain s m args below meth c X (xA X) 5 0 0 (MQ below (va_Qv Q (Bw X) (xA X)) args s 0 0 (xA X)) s0 67 [none, none, none, none, none] []) : ∀ (n : Nat) (s0 : ST) (v3 : Int32), w_X8_payBackRain_L11 v2 K Q n s0 v3 → G p l e rm_X8_payBackRain s m args below meth c X (xA X) 5 0 0 (MQ below (va_Qv Q (Bw X) (xA X)) args s 0 0 (xA X)) s0 11 [some (.ref (xa X 0)), none, some (.int v2), some (.int v3), none] [] := by
  intro n
  induction n with
  | zero => intro s0 v3 h; exact h.elim
  | succ n ih =>
    intro s0 v3 h
    refine r_iload_n (pc := 11) E dX8_payBackRain_11 rfl rfl ?_
    refine r_aload_n (pc := 12) E dX8_payBackRain_12 rfl rfl ?_
    refine r_get (pc := 13) (j := 9) (v := .ref (xa X 2)) E ok_0 kc_8 rfl q_312 rfl dX8_payBackRain_13 ?_
    refine r_get (pc := 16) (j := 1) E ok_2 kc_7 rfl q_122 (svI rfl) dX8_payBackRain_16 ?_
    refine r_icmp_ge (pc := 19) (tgt := 67) E dX8_payBackRain_19 (by decide) (fun c1 => ?_) (fun c1 => ?_)
    · have h := h.1 c1
      exact r_forget (le_n (le_n (le_n (le_n (le_n le_0))))) (hK _  h)
    · have h := h.2 c1
      refine r_aload_n (pc := 22) E dX8_payBackRain_22 rfl rfl ?_
      refine r_get (pc := 23) (j := 9) (v := .ref (xa X 2)) E ok_0 kc_8 rfl q_312 rfl dX8_payBackRain_23 ?_
      refine r_get (pc := 26) (j := 0) (v := .ref (xa X 3)) E ok_2 kc_7 rfl q_120 rfl dX8_payBackRain_26 ?_
      refine r_iload_n (pc := 29) E dX8_payBackRain_29 rfl rfl ?_
      refine r_aldTn (pc := 30) E h.1 h.2.1 dX8_payBackRain_30 (fun k2 ek2 ok2 => ?_)
      have h := h.2.2 k2 ek2
      refine r_astore (pc := 31) (lv' := [some (.ref (xa X 0)), none, some (.int v2), some (.int v3), some (.ref (xa X k2))]) E dX8_payBackRain_31 rfl rfl rfl ?_
      refine r_aload_n (pc := 33) E dX8_payBackRain_33 rfl rfl ?_
      refine r_get (pc := 34) (j := 9) (v := .ref (xa X 2)) E ok_0 kc_8 rfl q_312 rfl dX8_payBackRain_34 ?_
      refine r_dup (pc := 37) E dX8_payBackRain_37 rfl ?_
      refine r_get (pc := 38) (j := 4) E ok_2 kc_7 rfl q_126 (svI rfl) dX8_payBackRain_38 ?_
      refine r_aload (pc := 41) E dX8_payBackRain_41 rfl ?_
      refine r_get (pc := 43) (j := 5) E ok2 kc_6 rfl q_102 (svI (r0 (.inr ok2) rfl)) dX8_payBackRain_43 ?_
      refine r_aload (pc := 46) E dX8_payBackRain_46 rfl ?_
      refine r_get (pc := 48) (j := 3) E ok2 kc_6 rfl q_100 (svI (r0 (.inr ok2) rfl)) dX8_payBackRain_48 ?_
      refine r_imul (pc := 51) E dX8_payBackRain_51 ?_
      refine r_iload_n (pc := 52) E dX8_payBackRain_52 rfl rfl ?_
      refine r_imul (pc := 53) E dX8_payBackRain_53 ?_
      refine r_bipush (pc := 54) (v := 100) E dX8_payBackRain_54 (by decide) ?_
      refine r_idiv (pc := 56) E dX8_payBackRain_56 (by decide) ?_
      refine r_iadd (pc := 57) E dX8_payBackRain_57 ?_
      refine r_put (pc := 58) (j := 4) E ok_2 kc_7 rfl q_126 rfl rfl rfl dX8_payBackRain_58 (fun s2 es2 => ?_)
      have h := h s2 es2
      obtain ⟨x1, ex1⟩ : ∃ z : Int32, z = v3 + 1 := ⟨_, rfl⟩
      have h := h x1 ex1
      refine r_iinc (pc := 61) (v := 1) (lv' := [some (.ref (xa X 0)), none, some (.int v2), some (.int x1), some (.ref (xa X k2))]) E dX8_payBackRain_61 rfl (by decide) rfl rfl (by rw [ex1]; rfl) ?_
      refine r_goto (pc := 64) (tgt := 11) E dX8_payBackRain_64 (by decide) ?_
      exact r_forget (le_s (le_n (le_s (le_s (le_n le_0))))) (ih _ _ h)

def w_X8_payBackRain (s0 : ST) (a1 : Int32) (Q : ST → Prop) : Prop := (s0 0 11).toNatClampNeg < 2 ∧ (∀ k1 : Nat, k1 = 7 + (s0 0 11).toNatClampNeg → (w_X3_partOfRain s0 k1 a1 (fun r1 s1 => ∃ n1 : Nat, w_X8_payBackRain_L11 r1 (fun (s3 : ST) => Q s3) Q n1 s1 0)))
set_option maxRecDepth 100000 in
set_option maxHeartbeats 4000000 in
theorem c_X8_payBackRain {l : Launch} (X : XT) (s0 : ST) (a1 : Int32) (Q : ST → Prop) (h : w_X8_payBackRain s0 a1 Q) : MetV l yX8_payBackRain (wS yX8_payBackRain cX8_payBackRain 5 none) rm_X8_payBackRain X s0 [.ref (xa X 0), .int a1] Q := by
  refine metG (own := RX8) (k := 3) (lv0 := [some (.ref (xa X 0)), some (.int a1), none, none, none]) (by decide) rfl rfl rfl ?_
  intro p e s m args below meth c E hr
  refine r_aload_n (pc := 0) E dX8_payBackRain_0 rfl rfl ?_
  refine r_getR (pc := 1) (j := 11) E (by decide) kc_8 q_314 h.1 dX8_payBackRain_1 (fun k1 ek1 ok1 => ?_)
  have h := h.2 k1 ek1
  refine r_iload_n (pc := 4) E dX8_payBackRain_4 rfl rfl ?_
  refine afterI (pc := 5) E (fun H locs ls hP hS hl => runV (As := [.int a1]) (rest := []) E (c_X3_partOfRain X _ _ _ _ ok1 h) ok1 kc_3.1 ci_X3_partOfRain q_447 rfl rfl rfl rfl dX8_payBackRain_5 hP hS hl) (fun r1 s1 h => ?_)
  refine r_istore_n (pc := 8) (lv' := [some (.ref (xa X 0)), some (.int a1), some (.int r1), none, none]) E dX8_payBackRain_8 rfl rfl rfl rfl ?_
  refine r_iconst (pc := 9) (v := 0) E dX8_payBackRain_9 (by decide) ?_
  refine r_istore_n (pc := 10) (lv' := [some (.ref (xa X 0)), some (.int a1), some (.int r1), some (.int 0), none]) E dX8_payBackRain_10 rfl rfl rfl rfl ?_
  obtain ⟨n1, h⟩ := h
  refine r_forget (le_s (le_n (le_s (le_s (le_n le_0))))) (t_X8_payBackRain_L11 E hr ?_ n1 _ _ h)
  intro s3 h
  exact r_vret (pc := 67) E hr dX8_payBackRain_67 h

/-! ChairFront$TicketBook.latestAt -/
def rm_X7_latestAt : Room := { frames := 0, cells := 0, slots := 0, locals := 0 }
theorem ci_X7_latestAt : CI yX7_latestAt RX7 cX7_latestAt 3 (some (.object "ChairFront$Ticket")) 1 := ⟨q_460, q_461, q_56, q_462, by decide +kernel⟩
def w_X7_latestAt_L7 (v1 : Int32) (K : ST → Prop) (Q : Option Nat → ST → Prop) : Nat → ST → Int32 → Prop
  | 0, _, _ => False
  | n + 1, s0, v2 => ((v2 < 0 → (K s0)) ∧ (¬ (v2 < 0) → (vp_in v2 30 ∧ ((s0 3 v2.toNatClampNeg).toNatClampNeg < 30 ∧ (∀ k1 : Nat, k1 = 33 + (s0 3 v2.toNatClampNeg).toNatClampNeg → (((¬ (s0 k1 1) = v1 → (∀ x2 : Int32, x2 = v2 + (-1) → (w_X7_latestAt_L7 v1 K Q n s0 x2))) ∧ ((s0 k1 1) = v1 → (vp_in v2 30 ∧ ((s0 3 v2.toNatClampNeg).toNatClampNeg < 30 ∧ (∀ k2 : Nat, k2 = 33 + (s0 3 v2.toNatClampNeg).toNatClampNeg → ((((s0 k2 3) ≤ 0 → (∀ x3 : Int32, x3 = v2 + (-1) → (w_X7_latestAt_L7 v1 K Q n s0 x3))) ∧ (¬ ((s0 k2 3) ≤ 0) → (vp_in v2 30 ∧ ((s0 3 v2.toNatClampNeg).toNatClampNeg < 30 ∧ (∀ k3 : Nat, k3 = 33 + (s0 3 v2.toNatClampNeg).toNatClampNeg → (Q (some k3) s0))))))))))))))))))
set_option maxRecDepth 100000 in
set_option maxHeartbeats 4000000 in
theorem t_X7_latestAt_L7 {p : Program} {l : Launch} {e : Env} {s : State} {m : MethodId} {args : Array Value} {below : List Frame} {meth : Method} {c : Code} {X : XT} (E : Ev p rm_X7_latestAt s m args meth c X (xA X) 3 0 0 cX7_latestAt RX7) (hr : meth.sig.returnType = (some (.object "ChairFront$Ticket"))) {v1 : Int32} {K : ST → Prop} {Q : Option Nat → ST → Prop} (hK : ∀ (s0 : ST), K s0 → G p l e rm_X7_latestAt s m args below meth c X (xA X) 3 0 0 (MQ below (va_Qo X Q) args s 0 0 (xA X)) s0 49 [none, none, none] []) : ∀ (n : Nat) (s0 : ST) (v2 : Int32), w_X7_latestAt_L7 v1 K Q n s0 v2 → G p l e rm_X7_latestAt s m args below meth c X (xA X) 3 0 0 (MQ below (va_Qo X Q) args s 0 0 (xA X)) s0 7 [some (.ref (xa X 2)), some (.int v1), some (.int v2)] [] := by
  intro n
  induction n with
  | zero => intro s0 v2 h; exact h.elim
  | succ n ih =>
    intro s0 v2 h
    refine r_iload_n (pc := 7) E dX7_latestAt_7 rfl rfl ?_
    refine r_if_lt (pc := 8) (tgt := 49) E dX7_latestAt_8 (by decide) (fun c1 => ?_) (fun c1 => ?_)
    · have h := h.1 c1
      exact r_forget (le_n (le_n (le_n le_0))) (hK _  h)
    · have h := h.2 c1
      refine r_aload_n (pc := 11) E dX7_latestAt_11 rfl rfl ?_
      refine r_get (pc := 12) (j := 0) (v := .ref (xa X 3)) E ok_2 kc_7 rfl q_119 rfl dX7_latestAt_12 ?_
      refine r_iload_n (pc := 15) E dX7_latestAt_15 rfl rfl ?_
      refine r_aldTn (pc := 16) E h.1 h.2.1 dX7_latestAt_16 (fun k1 ek1 ok1 => ?_)
      have h := h.2.2 k1 ek1
      refine r_get (pc := 17) (j := 1) E ok1 kc_6 rfl q_96 (svI (r0 (.inr ok1) rfl)) dX7_latestAt_17 ?_
      refine r_iload_n (pc := 20) E dX7_latestAt_20 rfl rfl ?_
      refine r_icmp_ne (pc := 21) (tgt := 43) E dX7_latestAt_21 (by decide) (fun c2 => ?_) (fun c2 => ?_)
      · have h := h.1 c2
        obtain ⟨x2, ex2⟩ : ∃ z : Int32, z = v2 + (-1) := ⟨_, rfl⟩
        have h := h x2 ex2
        refine r_iinc (pc := 43) (v := (-1)) (lv' := [some (.ref (xa X 2)), some (.int v1), some (.int x2)]) E dX7_latestAt_43 rfl (by decide) rfl rfl (by rw [ex2]; rfl) ?_
        refine r_goto (pc := 46) (tgt := 7) E dX7_latestAt_46 (by decide) ?_
        exact r_forget (le_s (le_s (le_s le_0))) (ih _ _ h)
      · have h := h.2 c2
        refine r_aload_n (pc := 24) E dX7_latestAt_24 rfl rfl ?_
        refine r_get (pc := 25) (j := 0) (v := .ref (xa X 3)) E ok_2 kc_7 rfl q_119 rfl dX7_latestAt_25 ?_
        refine r_iload_n (pc := 28) E dX7_latestAt_28 rfl rfl ?_
        refine r_aldTn (pc := 29) E h.1 h.2.1 dX7_latestAt_29 (fun k2 ek2 ok2 => ?_)
        have h := h.2.2 k2 ek2
        refine r_get (pc := 30) (j := 3) E ok2 kc_6 rfl q_99 (svI (r0 (.inr ok2) rfl)) dX7_latestAt_30 ?_
        refine r_if_le (pc := 33) (tgt := 43) E dX7_latestAt_33 (by decide) (fun c3 => ?_) (fun c3 => ?_)
        · have h := h.1 c3
          obtain ⟨x3, ex3⟩ : ∃ z : Int32, z = v2 + (-1) := ⟨_, rfl⟩
          have h := h x3 ex3
          refine r_iinc (pc := 43) (v := (-1)) (lv' := [some (.ref (xa X 2)), some (.int v1), some (.int x3)]) E dX7_latestAt_43 rfl (by decide) rfl rfl (by rw [ex3]; rfl) ?_
          refine r_goto (pc := 46) (tgt := 7) E dX7_latestAt_46 (by decide) ?_
          exact r_forget (le_s (le_s (le_s le_0))) (ih _ _ h)
        · have h := h.2 c3
          refine r_aload_n (pc := 36) E dX7_latestAt_36 rfl rfl ?_
          refine r_get (pc := 37) (j := 0) (v := .ref (xa X 3)) E ok_2 kc_7 rfl q_119 rfl dX7_latestAt_37 ?_
          refine r_iload_n (pc := 40) E dX7_latestAt_40 rfl rfl ?_
          refine r_aldTn (pc := 41) E h.1 h.2.1 dX7_latestAt_41 (fun k3 ek3 ok3 => ?_)
          have h := h.2.2 k3 ek3
          exact r_oret (pc := 42) (some k3) E hr dX7_latestAt_42 rfl h

def w_X7_latestAt (s0 : ST) (a1 : Int32) (Q : Option Nat → ST → Prop) : Prop := ∀ x1 : Int32, x1 = ((s0 2 1) - 1) → (∃ n1 : Nat, w_X7_latestAt_L7 a1 (fun (s1 : ST) => Q none s1) Q n1 s0 x1)
set_option maxRecDepth 100000 in
set_option maxHeartbeats 4000000 in
theorem c_X7_latestAt {l : Launch} (X : XT) (s0 : ST) (a1 : Int32) (Q : Option Nat → ST → Prop) (h : w_X7_latestAt s0 a1 Q) : MetO l yX7_latestAt (wS yX7_latestAt cX7_latestAt 3 (some (.object "ChairFront$Ticket"))) rm_X7_latestAt X s0 [.ref (xa X 2), .int a1] Q := by
  refine metG (own := RX7) (k := 1) (lv0 := [some (.ref (xa X 2)), some (.int a1), none]) (by decide) rfl rfl rfl ?_
  intro p e s m args below meth c E hr
  refine r_aload_n (pc := 0) E dX7_latestAt_0 rfl rfl ?_
  refine r_get (pc := 1) (j := 1) E ok_2 kc_7 rfl q_121 (svI rfl) dX7_latestAt_1 ?_
  refine r_iconst (pc := 4) (v := 1) E dX7_latestAt_4 (by decide) ?_
  refine r_isub (pc := 5) E dX7_latestAt_5 ?_
  refine r_topi (fun x1 ex1 => ?_)
  have h := h x1 ex1
  refine r_istore_n (pc := 6) (lv' := [some (.ref (xa X 2)), some (.int a1), some (.int x1)]) E dX7_latestAt_6 rfl rfl rfl rfl ?_
  obtain ⟨n1, h⟩ := h
  refine r_forget (le_s (le_s (le_s le_0))) (t_X7_latestAt_L7 E hr ?_ n1 _ _ h)
  intro s1 h
  refine r_null (pc := 49) E dX7_latestAt_49 ?_
  exact r_oret (pc := 50) none E hr dX7_latestAt_50 rfl h

/-! ChairFront.breakChair -/
def rm_X8_breakChair : Room := { frames := 1, cells := 0, slots := 0, locals := 22 }
theorem ci_X8_breakChair : CI yX8_breakChair RX8 cX8_breakChair 4 none 1 := ⟨q_457, q_9, q_55, q_458, by decide +kernel⟩
def w_X8_breakChair (s0 : ST) (a1 : Int32) (Q : ST → Prop) : Prop := vp_in a1 10 ∧ (∀ k1 : Nat, k1 = 23 + a1.toNatClampNeg → (((¬ (s0 k1 2) = 0 → (w_X4_free s0 k1 (fun r1 s1 => ((¬ r1 = 0 → (∀ s2 : ST, s2 = up s1 k1 2 ((s1 k1 2) - 1) → (∀ s3 : ST, s3 = up s2 0 2 ((s2 0 2) + 1) → (Q s3)))) ∧ (r1 = 0 → (w_X7_latestAt s1 a1 (fun r2 s4 => ((r2 = none → (Q s4)) ∧ (∀ k2 : Nat, r2 = some k2 → okc 6 k2 ∧ (∀ s5 : ST, s5 = up s4 k2 3 ((s4 k2 3) - 1) → (∀ s6 : ST, s6 = up s5 k1 3 ((s5 k1 3) - 1) → (∀ s7 : ST, s7 = up s6 k1 2 ((s6 k1 2) - 1) → (∀ s8 : ST, s8 = up s7 0 2 ((s7 0 2) + 1) → (Q s8)))))))))))))) ∧ ((s0 k1 2) = 0 → (Q s0)))))
set_option maxRecDepth 100000 in
set_option maxHeartbeats 4000000 in
theorem c_X8_breakChair {l : Launch} (X : XT) (s0 : ST) (a1 : Int32) (Q : ST → Prop) (h : w_X8_breakChair s0 a1 Q) : MetV l yX8_breakChair (wS yX8_breakChair cX8_breakChair 4 none) rm_X8_breakChair X s0 [.ref (xa X 0), .int a1] Q := by
  refine metG (own := RX8) (k := 2) (lv0 := [some (.ref (xa X 0)), some (.int a1), none, none]) (by decide) rfl rfl rfl ?_
  intro p e s m args below meth c E hr
  refine r_aload_n (pc := 0) E dX8_breakChair_0 rfl rfl ?_
  refine r_get (pc := 1) (j := 8) (v := .ref (xa X 1)) E ok_0 kc_8 rfl q_311 rfl dX8_breakChair_1 ?_
  refine r_iload_n (pc := 4) E dX8_breakChair_4 rfl rfl ?_
  refine r_aldSn (pc := 5) E h.1 dX8_breakChair_5 (fun k1 ek1 ok1 => ?_)
  have h := h.2 k1 ek1
  refine r_astore_n (pc := 6) (lv' := [some (.ref (xa X 0)), some (.int a1), some (.ref (xa X k1)), none]) E dX8_breakChair_6 rfl rfl rfl rfl ?_
  refine r_aload_n (pc := 7) E dX8_breakChair_7 rfl rfl ?_
  refine r_get (pc := 8) (j := 2) E ok1 kc_4 rfl q_279 (svI (r0 (.inl ok1) rfl)) dX8_breakChair_8 ?_
  refine r_if_ne (pc := 11) (tgt := 15) E dX8_breakChair_11 (by decide) (fun c1 => ?_) (fun c1 => ?_)
  · have h := h.1 c1
    refine r_aload_n (pc := 15) E dX8_breakChair_15 rfl rfl ?_
    refine afterI (pc := 16) E (fun H locs ls hP hS hl => runV (As := []) (rest := []) E (c_X4_free X _ _ _ ok1 h) ok1 kc_4.1 ci_X4_free q_378 rfl rfl rfl rfl dX8_breakChair_16 hP hS hl) (fun r1 s1 h => ?_)
    refine r_if_ne (pc := 19) (tgt := 56) E dX8_breakChair_19 (by decide) (fun c2 => ?_) (fun c2 => ?_)
    · have h := h.1 c2
      refine r_aload_n (pc := 56) E dX8_breakChair_56 rfl rfl ?_
      refine r_dup (pc := 57) E dX8_breakChair_57 rfl ?_
      refine r_get (pc := 58) (j := 2) E ok1 kc_4 rfl q_279 (svI (r0 (.inl ok1) rfl)) dX8_breakChair_58 ?_
      refine r_iconst (pc := 61) (v := 1) E dX8_breakChair_61 (by decide) ?_
      refine r_isub (pc := 62) E dX8_breakChair_62 ?_
      refine r_put (pc := 63) (j := 2) E ok1 kc_4 rfl q_279 (r0 (.inl ok1) rfl) rfl rfl dX8_breakChair_63 (fun s2 es2 => ?_)
      have h := h s2 es2
      refine r_aload_n (pc := 66) E dX8_breakChair_66 rfl rfl ?_
      refine r_dup (pc := 67) E dX8_breakChair_67 rfl ?_
      refine r_get (pc := 68) (j := 2) E ok_0 kc_8 rfl q_305 (svI rfl) dX8_breakChair_68 ?_
      refine r_iconst (pc := 71) (v := 1) E dX8_breakChair_71 (by decide) ?_
      refine r_iadd (pc := 72) E dX8_breakChair_72 ?_
      refine r_put (pc := 73) (j := 2) E ok_0 kc_8 rfl q_305 rfl rfl rfl dX8_breakChair_73 (fun s3 es3 => ?_)
      have h := h s3 es3
      exact r_vret (pc := 76) E hr dX8_breakChair_76 h
    · have h := h.2 c2
      refine r_aload_n (pc := 22) E dX8_breakChair_22 rfl rfl ?_
      refine r_get (pc := 23) (j := 9) (v := .ref (xa X 2)) E ok_0 kc_8 rfl q_312 rfl dX8_breakChair_23 ?_
      refine r_iload_n (pc := 26) E dX8_breakChair_26 rfl rfl ?_
      refine afterO (pc := 27) E (fun H locs ls hP hS hl => runV (As := [.int a1]) (rest := []) E (c_X7_latestAt X _ _ _  h) ok_2 kc_7.1 ci_X7_latestAt q_459 rfl rfl rfl rfl dX8_breakChair_27 hP hS hl) (fun r2 s4 h => ?_)
      rcases r2 with _ | k2
      · have h := h.1 rfl
        refine r_astore_nN (pc := 30) (lv' := [some (.ref (xa X 0)), some (.int a1), some (.ref (xa X k1)), some (.null)]) E dX8_breakChair_30 rfl rfl rfl rfl ?_
        refine r_aload_nN (pc := 31) E dX8_breakChair_31 rfl rfl ?_
        refine r_ifnonnullN (pc := 32) E dX8_breakChair_32 ?_
        exact r_vret (pc := 35) E hr dX8_breakChair_35 h
      · obtain ⟨ok2, h⟩ := h.2 k2 rfl
        refine r_astore_n (pc := 30) (lv' := [some (.ref (xa X 0)), some (.int a1), some (.ref (xa X k1)), some (.ref (xa X k2))]) E dX8_breakChair_30 rfl rfl rfl rfl ?_
        refine r_aload_n (pc := 31) E dX8_breakChair_31 rfl rfl ?_
        refine r_ifnonnull (pc := 32) (tgt := 36) E dX8_breakChair_32 (by decide) ?_
        refine r_aload_n (pc := 36) E dX8_breakChair_36 rfl rfl ?_
        refine r_dup (pc := 37) E dX8_breakChair_37 rfl ?_
        refine r_get (pc := 38) (j := 3) E ok2 kc_6 rfl q_100 (svI (r0 (.inr ok2) rfl)) dX8_breakChair_38 ?_
        refine r_iconst (pc := 41) (v := 1) E dX8_breakChair_41 (by decide) ?_
        refine r_isub (pc := 42) E dX8_breakChair_42 ?_
        refine r_put (pc := 43) (j := 3) E ok2 kc_6 rfl q_100 (r0 (.inr ok2) rfl) rfl rfl dX8_breakChair_43 (fun s5 es5 => ?_)
        have h := h s5 es5
        refine r_aload_n (pc := 46) E dX8_breakChair_46 rfl rfl ?_
        refine r_dup (pc := 47) E dX8_breakChair_47 rfl ?_
        refine r_get (pc := 48) (j := 3) E ok1 kc_4 rfl q_281 (svI (r0 (.inl ok1) rfl)) dX8_breakChair_48 ?_
        refine r_iconst (pc := 51) (v := 1) E dX8_breakChair_51 (by decide) ?_
        refine r_isub (pc := 52) E dX8_breakChair_52 ?_
        refine r_put (pc := 53) (j := 3) E ok1 kc_4 rfl q_281 (r0 (.inl ok1) rfl) rfl rfl dX8_breakChair_53 (fun s6 es6 => ?_)
        have h := h s6 es6
        refine r_aload_n (pc := 56) E dX8_breakChair_56 rfl rfl ?_
        refine r_dup (pc := 57) E dX8_breakChair_57 rfl ?_
        refine r_get (pc := 58) (j := 2) E ok1 kc_4 rfl q_279 (svI (r0 (.inl ok1) rfl)) dX8_breakChair_58 ?_
        refine r_iconst (pc := 61) (v := 1) E dX8_breakChair_61 (by decide) ?_
        refine r_isub (pc := 62) E dX8_breakChair_62 ?_
        refine r_put (pc := 63) (j := 2) E ok1 kc_4 rfl q_279 (r0 (.inl ok1) rfl) rfl rfl dX8_breakChair_63 (fun s7 es7 => ?_)
        have h := h s7 es7
        refine r_aload_n (pc := 66) E dX8_breakChair_66 rfl rfl ?_
        refine r_dup (pc := 67) E dX8_breakChair_67 rfl ?_
        refine r_get (pc := 68) (j := 2) E ok_0 kc_8 rfl q_305 (svI rfl) dX8_breakChair_68 ?_
        refine r_iconst (pc := 71) (v := 1) E dX8_breakChair_71 (by decide) ?_
        refine r_iadd (pc := 72) E dX8_breakChair_72 ?_
        refine r_put (pc := 73) (j := 2) E ok_0 kc_8 rfl q_305 rfl rfl rfl dX8_breakChair_73 (fun s8 es8 => ?_)
        have h := h s8 es8
        exact r_vret (pc := 76) E hr dX8_breakChair_76 h
  · have h := h.2 c1
    exact r_vret (pc := 14) E hr dX8_breakChair_14 h

/-! ChairFront.wearAll -/
def rm_X8_wearAll : Room := { frames := 2, cells := 0, slots := 0, locals := 45 }
theorem ci_X8_wearAll : CI yX8_wearAll RX8 cX8_wearAll 6 none 1 := ⟨q_453, q_8, q_55, q_454, by decide +kernel⟩
def w_X8_wearAll_L57 (v1 : Int32) (v2 : Int32) (v4 : Int32) (K : ST → Prop) (Q : ST → Prop) : Nat → ST → Int32 → Prop
  | 0, _, _ => False
  | n + 1, s0, v5 => ((v4 ≤ v5 → (K s0)) ∧ (¬ (v4 ≤ v5) → (w_X8_breakChair s0 v2 (fun s3 => ∀ x2 : Int32, x2 = v5 + 1 → (w_X8_wearAll_L57 v1 v2 v4 K Q n s3 x2)))))
set_option maxRecDepth 100000 in
set_option maxHeartbeats 4000000 in
theorem t_X8_wearAll_L57 {p : Program} {l : Launch} {e : Env} {s : State} {m : MethodId} {args : Array Value} {below : List Frame} {meth : Method} {c : Code} {X : XT} (E : Ev p rm_X8_wearAll s m args meth c X (xA X) 6 0 0 cX8_wearAll RX8) (hr : meth.sig.returnType = none) {v1 : Int32} {v2 : Int32} {v4 : Int32} {K : ST → Prop} {Q : ST → Prop} (hK : ∀ (s0 : ST), K s0 → G p l e rm_X8_wearAll s m args below meth c X (xA X) 6 0 0 (MQ below (va_Qv Q (Bw X) (xA X)) args s 0 0 (xA X)) s0 75 [some (.ref (xa X 0)), some (.int v1), some (.int v2), none, none, none] []) : ∀ (n : Nat) (s0 : ST) (v5 : Int32), w_X8_wearAll_L57 v1 v2 v4 K Q n s0 v5 → G p l e rm_X8_wearAll s m args below meth c X (xA X) 6 0 0 (MQ below (va_Qv Q (Bw X) (xA X)) args s 0 0 (xA X)) s0 57 [some (.ref (xa X 0)), some (.int v1), some (.int v2), none, some (.int v4), some (.int v5)] [] := by
  intro n
  induction n with
  | zero => intro s0 v5 h; exact h.elim
  | succ n ih =>
    intro s0 v5 h
    refine r_iload (pc := 57) E dX8_wearAll_57 rfl ?_
    refine r_iload (pc := 59) E dX8_wearAll_59 rfl ?_
    refine r_icmp_ge (pc := 61) (tgt := 75) E dX8_wearAll_61 (by decide) (fun c2 => ?_) (fun c2 => ?_)
    · have h := h.1 c2
      exact r_forget (le_s (le_s (le_s (le_n (le_n (le_n le_0)))))) (hK _  h)
    · have h := h.2 c2
      refine r_aload_n (pc := 64) E dX8_wearAll_64 rfl rfl ?_
      refine r_iload_n (pc := 65) E dX8_wearAll_65 rfl rfl ?_
      refine afterV (pc := 66) E (fun H locs ls hP hS hl => runV (As := [.int v2]) (rest := []) E (c_X8_breakChair X _ _ _  h) ok_0 kc_8.1 ci_X8_breakChair q_455 rfl rfl rfl rfl dX8_wearAll_66 hP hS hl) (fun s3 h => ?_)
      obtain ⟨x2, ex2⟩ : ∃ z : Int32, z = v5 + 1 := ⟨_, rfl⟩
      have h := h x2 ex2
      refine r_iinc (pc := 69) (v := 1) (lv' := [some (.ref (xa X 0)), some (.int v1), some (.int v2), none, some (.int v4), some (.int x2)]) E dX8_wearAll_69 rfl (by decide) rfl rfl (by rw [ex2]; rfl) ?_
      refine r_goto (pc := 72) (tgt := 57) E dX8_wearAll_72 (by decide) ?_
      exact r_forget (le_s (le_s (le_s (le_n (le_s (le_s le_0)))))) (ih _ _ h)

def w_X8_wearAll_L2 (v1 : Int32) (K : ST → Prop) (Q : ST → Prop) : Nat → ST → Int32 → Prop
  | 0, _, _ => False
  | n + 1, s0, v2 => (((s0 0 7) ≤ v2 → (K s0)) ∧ (¬ ((s0 0 7) ≤ v2) → (vp_in v2 10 ∧ (∀ k1 : Nat, k1 = 23 + v2.toNatClampNeg → (∀ s1 : ST, s1 = up s0 k1 4 ((s0 k1 4) + (v1 * (s0 k1 2))) → (∀ x1 : Int32, x1 = ((s1 k1 4) / 1000) → (∀ s2 : ST, s2 = up s1 k1 4 ((s1 k1 4) - (s1 k1 4) / 1000 * 1000) → (∃ n1 : Nat, w_X8_wearAll_L57 v1 v2 x1 (fun (s4 : ST) => ∀ x3 : Int32, x3 = v2 + 1 → (w_X8_wearAll_L2 v1 K Q n s4 x3)) Q n1 s2 0))))))))
set_option maxRecDepth 100000 in
set_option maxHeartbeats 4000000 in
theorem t_X8_wearAll_L2 {p : Program} {l : Launch} {e : Env} {s : State} {m : MethodId} {args : Array Value} {below : List Frame} {meth : Method} {c : Code} {X : XT} (E : Ev p rm_X8_wearAll s m args meth c X (xA X) 6 0 0 cX8_wearAll RX8) (hr : meth.sig.returnType = none) {v1 : Int32} {K : ST → Prop} {Q : ST → Prop} (hK : ∀ (s0 : ST), K s0 → G p l e rm_X8_wearAll s m args below meth c X (xA X) 6 0 0 (MQ below (va_Qv Q (Bw X) (xA X)) args s 0 0 (xA X)) s0 81 [none, none, none, none, none, none] []) : ∀ (n : Nat) (s0 : ST) (v2 : Int32), w_X8_wearAll_L2 v1 K Q n s0 v2 → G p l e rm_X8_wearAll s m args below meth c X (xA X) 6 0 0 (MQ below (va_Qv Q (Bw X) (xA X)) args s 0 0 (xA X)) s0 2 [some (.ref (xa X 0)), some (.int v1), some (.int v2), none, none, none] [] := by
  intro n
  induction n with
  | zero => intro s0 v2 h; exact h.elim
  | succ n ih =>
    intro s0 v2 h
    refine r_iload_n (pc := 2) E dX8_wearAll_2 rfl rfl ?_
    refine r_aload_n (pc := 3) E dX8_wearAll_3 rfl rfl ?_
    refine r_get (pc := 4) (j := 7) E ok_0 kc_8 rfl q_310 (svI rfl) dX8_wearAll_4 ?_
    refine r_icmp_ge (pc := 7) (tgt := 81) E dX8_wearAll_7 (by decide) (fun c1 => ?_) (fun c1 => ?_)
    · have h := h.1 c1
      exact r_forget (le_n (le_n (le_n (le_n (le_n (le_n le_0)))))) (hK _  h)
    · have h := h.2 c1
      refine r_aload_n (pc := 10) E dX8_wearAll_10 rfl rfl ?_
      refine r_get (pc := 11) (j := 8) (v := .ref (xa X 1)) E ok_0 kc_8 rfl q_311 rfl dX8_wearAll_11 ?_
      refine r_iload_n (pc := 14) E dX8_wearAll_14 rfl rfl ?_
      refine r_aldSn (pc := 15) E h.1 dX8_wearAll_15 (fun k1 ek1 ok1 => ?_)
      have h := h.2 k1 ek1
      refine r_astore_n (pc := 16) (lv' := [some (.ref (xa X 0)), some (.int v1), some (.int v2), some (.ref (xa X k1)), none, none]) E dX8_wearAll_16 rfl rfl rfl rfl ?_
      refine r_aload_n (pc := 17) E dX8_wearAll_17 rfl rfl ?_
      refine r_dup (pc := 18) E dX8_wearAll_18 rfl ?_
      refine r_get (pc := 19) (j := 4) E ok1 kc_4 rfl q_282 (svI (r0 (.inl ok1) rfl)) dX8_wearAll_19 ?_
      refine r_iload_n (pc := 22) E dX8_wearAll_22 rfl rfl ?_
      refine r_aload_n (pc := 23) E dX8_wearAll_23 rfl rfl ?_
      refine r_get (pc := 24) (j := 2) E ok1 kc_4 rfl q_279 (svI (r0 (.inl ok1) rfl)) dX8_wearAll_24 ?_
      refine r_imul (pc := 27) E dX8_wearAll_27 ?_
      refine r_iadd (pc := 28) E dX8_wearAll_28 ?_
      refine r_put (pc := 29) (j := 4) E ok1 kc_4 rfl q_282 (r0 (.inl ok1) rfl) rfl rfl dX8_wearAll_29 (fun s1 es1 => ?_)
      have h := h s1 es1
      refine r_aload_n (pc := 32) E dX8_wearAll_32 rfl rfl ?_
      refine r_get (pc := 33) (j := 4) E ok1 kc_4 rfl q_282 (svI (r0 (.inl ok1) rfl)) dX8_wearAll_33 ?_
      refine r_sipush (pc := 36) (v := 1000) E dX8_wearAll_36 (by decide) ?_
      refine r_idiv (pc := 39) E dX8_wearAll_39 (by decide) ?_
      refine r_topi (fun x1 ex1 => ?_)
      have h := h x1 ex1
      refine r_istore (pc := 40) (lv' := [some (.ref (xa X 0)), some (.int v1), some (.int v2), some (.ref (xa X k1)), some (.int x1), none]) E dX8_wearAll_40 rfl rfl rfl ?_
      refine r_aload_n (pc := 42) E dX8_wearAll_42 rfl rfl ?_
      refine r_dup (pc := 43) E dX8_wearAll_43 rfl ?_
      refine r_get (pc := 44) (j := 4) E ok1 kc_4 rfl q_282 (svI (r0 (.inl ok1) rfl)) dX8_wearAll_44 ?_
      refine r_sipush (pc := 47) (v := 1000) E dX8_wearAll_47 (by decide) ?_
      refine r_irem (pc := 50) E dX8_wearAll_50 (by decide) ?_
      refine r_put (pc := 51) (j := 4) E ok1 kc_4 rfl q_282 (r0 (.inl ok1) rfl) rfl rfl dX8_wearAll_51 (fun s2 es2 => ?_)
      have h := h s2 es2
      refine r_iconst (pc := 54) (v := 0) E dX8_wearAll_54 (by decide) ?_
      refine r_istore (pc := 55) (lv' := [some (.ref (xa X 0)), some (.int v1), some (.int v2), some (.ref (xa X k1)), some (.int x1), some (.int 0)]) E dX8_wearAll_55 rfl rfl rfl ?_
      obtain ⟨n1, h⟩ := h
      refine r_forget (le_s (le_s (le_s (le_n (le_s (le_s le_0)))))) (t_X8_wearAll_L57 E hr ?_ n1 _ _ h)
      intro s4 h
      obtain ⟨x3, ex3⟩ : ∃ z : Int32, z = v2 + 1 := ⟨_, rfl⟩
      have h := h x3 ex3
      refine r_iinc (pc := 75) (v := 1) (lv' := [some (.ref (xa X 0)), some (.int v1), some (.int x3), none, none, none]) E dX8_wearAll_75 rfl (by decide) rfl rfl (by rw [ex3]; rfl) ?_
      refine r_goto (pc := 78) (tgt := 2) E dX8_wearAll_78 (by decide) ?_
      exact r_forget (le_s (le_s (le_s (le_n (le_n (le_n le_0)))))) (ih _ _ h)

def w_X8_wearAll (s0 : ST) (a1 : Int32) (Q : ST → Prop) : Prop := ∃ n2 : Nat, w_X8_wearAll_L2 a1 (fun (s5 : ST) => Q s5) Q n2 s0 0
set_option maxRecDepth 100000 in
set_option maxHeartbeats 4000000 in
theorem c_X8_wearAll {l : Launch} (X : XT) (s0 : ST) (a1 : Int32) (Q : ST → Prop) (h : w_X8_wearAll s0 a1 Q) : MetV l yX8_wearAll (wS yX8_wearAll cX8_wearAll 6 none) rm_X8_wearAll X s0 [.ref (xa X 0), .int a1] Q := by
  refine metG (own := RX8) (k := 4) (lv0 := [some (.ref (xa X 0)), some (.int a1), none, none, none, none]) (by decide) rfl rfl rfl ?_
  intro p e s m args below meth c E hr
  refine r_iconst (pc := 0) (v := 0) E dX8_wearAll_0 (by decide) ?_
  refine r_istore_n (pc := 1) (lv' := [some (.ref (xa X 0)), some (.int a1), some (.int 0), none, none, none]) E dX8_wearAll_1 rfl rfl rfl rfl ?_
  obtain ⟨n2, h⟩ := h
  refine r_forget (le_s (le_s (le_s (le_n (le_n (le_n le_0)))))) (t_X8_wearAll_L2 E hr ?_ n2 _ _ h)
  intro s5 h
  exact r_vret (pc := 81) E hr dX8_wearAll_81 h

/-! ChairFront.passAnHour -/
def rm_X8_passAnHour : Room := { frames := 1, cells := 0, slots := 0, locals := 21 }
theorem ci_X8_passAnHour : CI yX8_passAnHour RX8 cX8_passAnHour 3 none 0 := ⟨q_465, q_10, q_55, q_466, by decide +kernel⟩
def w_X8_passAnHour_L2 (K : ST → Prop) (Q : ST → Prop) : Nat → ST → Int32 → Prop
  | 0, _, _ => False
  | n + 1, s0, v1 => (((s0 2 1) ≤ v1 → (K s0)) ∧ (¬ ((s0 2 1) ≤ v1) → (vp_in v1 30 ∧ ((s0 3 v1.toNatClampNeg).toNatClampNeg < 30 ∧ (∀ k1 : Nat, k1 = 33 + (s0 3 v1.toNatClampNeg).toNatClampNeg → (∀ s1 : ST, s1 = up s0 k1 4 ((s0 k1 4) - 1) → (((0 < (s1 k1 4) → (∀ x1 : Int32, x1 = v1 + 1 → (w_X8_passAnHour_L2 K Q n s1 x1))) ∧ (¬ (0 < (s1 k1 4)) → (w_X8_endTicket s1 k1 (fun s2 => ∀ x2 : Int32, x2 = v1 + 1 → (w_X8_passAnHour_L2 K Q n s2 x2))))))))))))
set_option maxRecDepth 100000 in
set_option maxHeartbeats 4000000 in
theorem t_X8_passAnHour_L2 {p : Program} {l : Launch} {e : Env} {s : State} {m : MethodId} {args : Array Value} {below : List Frame} {meth : Method} {c : Code} {X : XT} (E : Ev p rm_X8_passAnHour s m args meth c X (xA X) 3 0 0 cX8_passAnHour RX8) (hr : meth.sig.returnType = none) {K : ST → Prop} {Q : ST → Prop} (hK : ∀ (s0 : ST), K s0 → G p l e rm_X8_passAnHour s m args below meth c X (xA X) 3 0 0 (MQ below (va_Qv Q (Bw X) (xA X)) args s 0 0 (xA X)) s0 51 [none, none, none] []) : ∀ (n : Nat) (s0 : ST) (v1 : Int32), w_X8_passAnHour_L2 K Q n s0 v1 → G p l e rm_X8_passAnHour s m args below meth c X (xA X) 3 0 0 (MQ below (va_Qv Q (Bw X) (xA X)) args s 0 0 (xA X)) s0 2 [some (.ref (xa X 0)), some (.int v1), none] [] := by
  intro n
  induction n with
  | zero => intro s0 v1 h; exact h.elim
  | succ n ih =>
    intro s0 v1 h
    refine r_iload_n (pc := 2) E dX8_passAnHour_2 rfl rfl ?_
    refine r_aload_n (pc := 3) E dX8_passAnHour_3 rfl rfl ?_
    refine r_get (pc := 4) (j := 9) (v := .ref (xa X 2)) E ok_0 kc_8 rfl q_312 rfl dX8_passAnHour_4 ?_
    refine r_get (pc := 7) (j := 1) E ok_2 kc_7 rfl q_122 (svI rfl) dX8_passAnHour_7 ?_
    refine r_icmp_ge (pc := 10) (tgt := 51) E dX8_passAnHour_10 (by decide) (fun c1 => ?_) (fun c1 => ?_)
    · have h := h.1 c1
      exact r_forget (le_n (le_n (le_n le_0))) (hK _  h)
    · have h := h.2 c1
      refine r_aload_n (pc := 13) E dX8_passAnHour_13 rfl rfl ?_
      refine r_get (pc := 14) (j := 9) (v := .ref (xa X 2)) E ok_0 kc_8 rfl q_312 rfl dX8_passAnHour_14 ?_
      refine r_get (pc := 17) (j := 0) (v := .ref (xa X 3)) E ok_2 kc_7 rfl q_120 rfl dX8_passAnHour_17 ?_
      refine r_iload_n (pc := 20) E dX8_passAnHour_20 rfl rfl ?_
      refine r_aldTn (pc := 21) E h.1 h.2.1 dX8_passAnHour_21 (fun k1 ek1 ok1 => ?_)
      have h := h.2.2 k1 ek1
      refine r_astore_n (pc := 22) (lv' := [some (.ref (xa X 0)), some (.int v1), some (.ref (xa X k1))]) E dX8_passAnHour_22 rfl rfl rfl rfl ?_
      refine r_aload_n (pc := 23) E dX8_passAnHour_23 rfl rfl ?_
      refine r_dup (pc := 24) E dX8_passAnHour_24 rfl ?_
      refine r_get (pc := 25) (j := 4) E ok1 kc_6 rfl q_101 (svI (r0 (.inr ok1) rfl)) dX8_passAnHour_25 ?_
      refine r_iconst (pc := 28) (v := 1) E dX8_passAnHour_28 (by decide) ?_
      refine r_isub (pc := 29) E dX8_passAnHour_29 ?_
      refine r_put (pc := 30) (j := 4) E ok1 kc_6 rfl q_101 (r0 (.inr ok1) rfl) rfl rfl dX8_passAnHour_30 (fun s1 es1 => ?_)
      have h := h s1 es1
      refine r_aload_n (pc := 33) E dX8_passAnHour_33 rfl rfl ?_
      refine r_get (pc := 34) (j := 4) E ok1 kc_6 rfl q_101 (svI (r0 (.inr ok1) rfl)) dX8_passAnHour_34 ?_
      refine r_if_gt (pc := 37) (tgt := 45) E dX8_passAnHour_37 (by decide) (fun c2 => ?_) (fun c2 => ?_)
      · have h := h.1 c2
        obtain ⟨x1, ex1⟩ : ∃ z : Int32, z = v1 + 1 := ⟨_, rfl⟩
        have h := h x1 ex1
        refine r_iinc (pc := 45) (v := 1) (lv' := [some (.ref (xa X 0)), some (.int x1), some (.ref (xa X k1))]) E dX8_passAnHour_45 rfl (by decide) rfl rfl (by rw [ex1]; rfl) ?_
        refine r_goto (pc := 48) (tgt := 2) E dX8_passAnHour_48 (by decide) ?_
        exact r_forget (le_s (le_s (le_n le_0))) (ih _ _ h)
      · have h := h.2 c2
        refine r_aload_n (pc := 40) E dX8_passAnHour_40 rfl rfl ?_
        refine r_aload_n (pc := 41) E dX8_passAnHour_41 rfl rfl ?_
        refine afterV (pc := 42) E (fun H locs ls hP hS hl => runV (As := [.ref (xa X k1)]) (rest := []) E (c_X8_endTicket X _ _ _ ok1 h) ok_0 kc_8.1 ci_X8_endTicket q_435 rfl rfl rfl rfl dX8_passAnHour_42 hP hS hl) (fun s2 h => ?_)
        obtain ⟨x2, ex2⟩ : ∃ z : Int32, z = v1 + 1 := ⟨_, rfl⟩
        have h := h x2 ex2
        refine r_iinc (pc := 45) (v := 1) (lv' := [some (.ref (xa X 0)), some (.int x2), some (.ref (xa X k1))]) E dX8_passAnHour_45 rfl (by decide) rfl rfl (by rw [ex2]; rfl) ?_
        refine r_goto (pc := 48) (tgt := 2) E dX8_passAnHour_48 (by decide) ?_
        exact r_forget (le_s (le_s (le_n le_0))) (ih _ _ h)

def w_X8_passAnHour (s0 : ST) (Q : ST → Prop) : Prop := ∃ n1 : Nat, w_X8_passAnHour_L2 (fun (s3 : ST) => Q s3) Q n1 s0 0
set_option maxRecDepth 100000 in
set_option maxHeartbeats 4000000 in
theorem c_X8_passAnHour {l : Launch} (X : XT) (s0 : ST) (Q : ST → Prop) (h : w_X8_passAnHour s0 Q) : MetV l yX8_passAnHour (wS yX8_passAnHour cX8_passAnHour 3 none) rm_X8_passAnHour X s0 [.ref (xa X 0)] Q := by
  refine metG (own := RX8) (k := 2) (lv0 := [some (.ref (xa X 0)), none, none]) (by decide) rfl rfl rfl ?_
  intro p e s m args below meth c E hr
  refine r_iconst (pc := 0) (v := 0) E dX8_passAnHour_0 (by decide) ?_
  refine r_istore_n (pc := 1) (lv' := [some (.ref (xa X 0)), some (.int 0), none]) E dX8_passAnHour_1 rfl rfl rfl rfl ?_
  obtain ⟨n1, h⟩ := h
  refine r_forget (le_s (le_s (le_n le_0))) (t_X8_passAnHour_L2 E hr ?_ n1 _ _ h)
  intro s3 h
  exact r_vret (pc := 51) E hr dX8_passAnHour_51 h

/-! ChairFront$TicketBook.dropEnded -/
def rm_X7_dropEnded : Room := { frames := 0, cells := 0, slots := 0, locals := 0 }
theorem ci_X7_dropEnded : CI yX7_dropEnded RX7 cX7_dropEnded 4 none 0 := ⟨q_468, q_469, q_56, q_470, by decide +kernel⟩
def w_X7_dropEnded_L4 (K : ST → Int32 → Prop) (Q : ST → Prop) : Nat → ST → Int32 → Int32 → Prop
  | 0, _, _, _ => False
  | n + 1, s0, v1, v2 => (((s0 2 1) ≤ v2 → (K s0 v1)) ∧ (¬ ((s0 2 1) ≤ v2) → (vp_in v2 30 ∧ ((s0 3 v2.toNatClampNeg).toNatClampNeg < 30 ∧ (∀ k1 : Nat, k1 = 33 + (s0 3 v2.toNatClampNeg).toNatClampNeg → ((((s0 k1 3) ≤ 0 → (∀ x1 : Int32, x1 = v2 + 1 → (w_X7_dropEnded_L4 K Q n s0 v1 x1))) ∧ (¬ ((s0 k1 3) ≤ 0) → (vp_in v1 30 ∧ ((s0 3 v1.toNatClampNeg).toNatClampNeg < 30 ∧ (∀ k2 : Nat, k2 = 33 + (s0 3 v1.toNatClampNeg).toNatClampNeg → (vp_in v2 30 ∧ (∀ s1 : ST, s1 = up s0 3 v2.toNatClampNeg (nI (k2 - 33)) → (vp_in v1 30 ∧ (∀ s2 : ST, s2 = up s1 3 v1.toNatClampNeg (nI (k1 - 33)) → (∀ x2 : Int32, x2 = v1 + 1 → (∀ x3 : Int32, x3 = v2 + 1 → (w_X7_dropEnded_L4 K Q n s2 x2 x3))))))))))))))))))
set_option maxRecDepth 100000 in
set_option maxHeartbeats 4000000 in
theorem t_X7_dropEnded_L4 {p : Program} {l : Launch} {e : Env} {s : State} {m : MethodId} {args : Array Value} {below : List Frame} {meth : Method} {c : Code} {X : XT} (E : Ev p rm_X7_dropEnded s m args meth c X (xA X) 4 0 0 cX7_dropEnded RX7) (hr : meth.sig.returnType = none) {K : ST → Int32 → Prop} {Q : ST → Prop} (hK : ∀ (s0 : ST) (v1 : Int32), K s0 v1 → G p l e rm_X7_dropEnded s m args below meth c X (xA X) 4 0 0 (MQ below (va_Qv Q (Bw X) (xA X)) args s 0 0 (xA X)) s0 54 [some (.ref (xa X 2)), some (.int v1), none, none] []) : ∀ (n : Nat) (s0 : ST) (v1 : Int32) (v2 : Int32), w_X7_dropEnded_L4 K Q n s0 v1 v2 → G p l e rm_X7_dropEnded s m args below meth c X (xA X) 4 0 0 (MQ below (va_Qv Q (Bw X) (xA X)) args s 0 0 (xA X)) s0 4 [some (.ref (xa X 2)), some (.int v1), some (.int v2), none] [] := by
  intro n
  induction n with
  | zero => intro s0 v1 v2 h; exact h.elim
  | succ n ih =>
    intro s0 v1 v2 h
    refine r_iload_n (pc := 4) E dX7_dropEnded_4 rfl rfl ?_
    refine r_aload_n (pc := 5) E dX7_dropEnded_5 rfl rfl ?_
    refine r_get (pc := 6) (j := 1) E ok_2 kc_7 rfl q_121 (svI rfl) dX7_dropEnded_6 ?_
    refine r_icmp_ge (pc := 9) (tgt := 54) E dX7_dropEnded_9 (by decide) (fun c1 => ?_) (fun c1 => ?_)
    · have h := h.1 c1
      exact r_forget (le_s (le_s (le_n (le_n le_0)))) (hK _ _ h)
    · have h := h.2 c1
      refine r_aload_n (pc := 12) E dX7_dropEnded_12 rfl rfl ?_
      refine r_get (pc := 13) (j := 0) (v := .ref (xa X 3)) E ok_2 kc_7 rfl q_119 rfl dX7_dropEnded_13 ?_
      refine r_iload_n (pc := 16) E dX7_dropEnded_16 rfl rfl ?_
      refine r_aldTn (pc := 17) E h.1 h.2.1 dX7_dropEnded_17 (fun k1 ek1 ok1 => ?_)
      have h := h.2.2 k1 ek1
      refine r_astore_n (pc := 18) (lv' := [some (.ref (xa X 2)), some (.int v1), some (.int v2), some (.ref (xa X k1))]) E dX7_dropEnded_18 rfl rfl rfl rfl ?_
      refine r_aload_n (pc := 19) E dX7_dropEnded_19 rfl rfl ?_
      refine r_get (pc := 20) (j := 3) E ok1 kc_6 rfl q_99 (svI (r0 (.inr ok1) rfl)) dX7_dropEnded_20 ?_
      refine r_if_le (pc := 23) (tgt := 48) E dX7_dropEnded_23 (by decide) (fun c2 => ?_) (fun c2 => ?_)
      · have h := h.1 c2
        obtain ⟨x1, ex1⟩ : ∃ z : Int32, z = v2 + 1 := ⟨_, rfl⟩
        have h := h x1 ex1
        refine r_iinc (pc := 48) (v := 1) (lv' := [some (.ref (xa X 2)), some (.int v1), some (.int x1), some (.ref (xa X k1))]) E dX7_dropEnded_48 rfl (by decide) rfl rfl (by rw [ex1]; rfl) ?_
        refine r_goto (pc := 51) (tgt := 4) E dX7_dropEnded_51 (by decide) ?_
        exact r_forget (le_s (le_s (le_s (le_n le_0)))) (ih _ _ _ h)
      · have h := h.2 c2
        refine r_aload_n (pc := 26) E dX7_dropEnded_26 rfl rfl ?_
        refine r_get (pc := 27) (j := 0) (v := .ref (xa X 3)) E ok_2 kc_7 rfl q_119 rfl dX7_dropEnded_27 ?_
        refine r_iload_n (pc := 30) E dX7_dropEnded_30 rfl rfl ?_
        refine r_aload_n (pc := 31) E dX7_dropEnded_31 rfl rfl ?_
        refine r_get (pc := 32) (j := 0) (v := .ref (xa X 3)) E ok_2 kc_7 rfl q_119 rfl dX7_dropEnded_32 ?_
        refine r_iload_n (pc := 35) E dX7_dropEnded_35 rfl rfl ?_
        refine r_aldTn (pc := 36) E h.1 h.2.1 dX7_dropEnded_36 (fun k2 ek2 ok2 => ?_)
        have h := h.2.2 k2 ek2
        refine r_astT (pc := 37) E h.1 ok2 dX7_dropEnded_37 (fun s1 es1 => ?_)
        have h := h.2 s1 es1
        refine r_aload_n (pc := 38) E dX7_dropEnded_38 rfl rfl ?_
        refine r_get (pc := 39) (j := 0) (v := .ref (xa X 3)) E ok_2 kc_7 rfl q_119 rfl dX7_dropEnded_39 ?_
        refine r_iload_n (pc := 42) E dX7_dropEnded_42 rfl rfl ?_
        refine r_aload_n (pc := 43) E dX7_dropEnded_43 rfl rfl ?_
        refine r_astT (pc := 44) E h.1 ok1 dX7_dropEnded_44 (fun s2 es2 => ?_)
        have h := h.2 s2 es2
        obtain ⟨x2, ex2⟩ : ∃ z : Int32, z = v1 + 1 := ⟨_, rfl⟩
        have h := h x2 ex2
        refine r_iinc (pc := 45) (v := 1) (lv' := [some (.ref (xa X 2)), some (.int x2), some (.int v2), some (.ref (xa X k1))]) E dX7_dropEnded_45 rfl (by decide) rfl rfl (by rw [ex2]; rfl) ?_
        obtain ⟨x3, ex3⟩ : ∃ z : Int32, z = v2 + 1 := ⟨_, rfl⟩
        have h := h x3 ex3
        refine r_iinc (pc := 48) (v := 1) (lv' := [some (.ref (xa X 2)), some (.int x2), some (.int x3), some (.ref (xa X k1))]) E dX7_dropEnded_48 rfl (by decide) rfl rfl (by rw [ex3]; rfl) ?_
        refine r_goto (pc := 51) (tgt := 4) E dX7_dropEnded_51 (by decide) ?_
        exact r_forget (le_s (le_s (le_s (le_n le_0)))) (ih _ _ _ h)

def w_X7_dropEnded (s0 : ST) (Q : ST → Prop) : Prop := ∃ n1 : Nat, w_X7_dropEnded_L4 (fun (s3 : ST) (x4 : Int32) => ∀ s4 : ST, s4 = up s3 2 1 x4 → (Q s4)) Q n1 s0 0 0
set_option maxRecDepth 100000 in
set_option maxHeartbeats 4000000 in
theorem c_X7_dropEnded {l : Launch} (X : XT) (s0 : ST) (Q : ST → Prop) (h : w_X7_dropEnded s0 Q) : MetV l yX7_dropEnded (wS yX7_dropEnded cX7_dropEnded 4 none) rm_X7_dropEnded X s0 [.ref (xa X 2)] Q := by
  refine metG (own := RX7) (k := 3) (lv0 := [some (.ref (xa X 2)), none, none, none]) (by decide) rfl rfl rfl ?_
  intro p e s m args below meth c E hr
  refine r_iconst (pc := 0) (v := 0) E dX7_dropEnded_0 (by decide) ?_
  refine r_istore_n (pc := 1) (lv' := [some (.ref (xa X 2)), some (.int 0), none, none]) E dX7_dropEnded_1 rfl rfl rfl rfl ?_
  refine r_iconst (pc := 2) (v := 0) E dX7_dropEnded_2 (by decide) ?_
  refine r_istore_n (pc := 3) (lv' := [some (.ref (xa X 2)), some (.int 0), some (.int 0), none]) E dX7_dropEnded_3 rfl rfl rfl rfl ?_
  obtain ⟨n1, h⟩ := h
  refine r_forget (le_s (le_s (le_s (le_n le_0)))) (t_X7_dropEnded_L4 E hr ?_ n1 _ _ _ h)
  intro s3 x4 h
  refine r_aload_n (pc := 54) E dX7_dropEnded_54 rfl rfl ?_
  refine r_iload_n (pc := 55) E dX7_dropEnded_55 rfl rfl ?_
  refine r_put (pc := 56) (j := 1) E ok_2 kc_7 rfl q_121 rfl rfl rfl dX7_dropEnded_56 (fun s4 es4 => ?_)
  have h := h s4 es4
  exact r_vret (pc := 59) E hr dX7_dropEnded_59 h

/-! ChairFront.hour -/
def rm_X8_hour : Room := { frames := 3, cells := 0, slots := 0, locals := 70 }
theorem ci_X8_hour : CI yX8_hour RX8 cX8_hour 5 (some .int) 4 := ⟨q_428, q_429, q_55, q_430, by decide +kernel⟩
def w_X8_hour (s0 : ST) (a1 : Int32) (a2 : Int32) (a3 : Int32) (a4 : Int32) (Q : Int32 → ST → Prop) : Prop := w_X8_within s0 a1 0 1000 (fun r1 s1 => ((r1 = 0 → (Q (-1000001) s1)) ∧ (¬ (r1 = 0) → (w_X8_within s1 a2 0 100 (fun r2 s2 => ((r2 = 0 → (Q (-1000001) s2)) ∧ (¬ (r2 = 0) → (w_X8_within s2 a3 0 60 (fun r3 s3 => ((r3 = 0 → (Q (-1000001) s3)) ∧ (¬ (r3 = 0) → (w_X8_within s3 a4 0 10 (fun r4 s4 => ((¬ r4 = 0 → ((((s4 0 5) < 5000 → (∀ s5 : ST, s5 = up s4 0 5 ((s4 0 5) + 1) → (∀ s6 : ST, s6 = up s5 0 6 a2 → (w_X8_takeByTide s6 a1 (fun s7 => ((a2 ≤ (s7 0 4) → (w_X8_payBackRain s7 a3 (fun s8 => w_X8_wearAll s8 a4 (fun s9 => w_X8_passAnHour s9 (fun s10 => w_X7_dropEnded s10 (fun s11 => Q (s11 2 1) s11)))))) ∧ (¬ (a2 ≤ (s7 0 4)) → (w_X8_endAllByWind s7 (fun s12 => w_X8_payBackRain s12 a3 (fun s13 => w_X8_wearAll s13 a4 (fun s14 => w_X8_passAnHour s14 (fun s15 => w_X7_dropEnded s15 (fun s16 => Q (s16 2 1) s16))))))))))))) ∧ (¬ ((s4 0 5) < 5000) → (Q (-1000002) s4))))) ∧ (r4 = 0 → (Q (-1000001) s4))))))))))))))))
set_option maxRecDepth 100000 in
set_option maxHeartbeats 4000000 in
theorem c_X8_hour {l : Launch} (X : XT) (s0 : ST) (a1 : Int32) (a2 : Int32) (a3 : Int32) (a4 : Int32) (Q : Int32 → ST → Prop) (h : w_X8_hour s0 a1 a2 a3 a4 Q) : MetI l yX8_hour (wS yX8_hour cX8_hour 5 (some .int)) rm_X8_hour X s0 [.ref (xa X 0), .int a1, .int a2, .int a3, .int a4] Q := by
  refine metG (own := RX8) (k := 0) (lv0 := [some (.ref (xa X 0)), some (.int a1), some (.int a2), some (.int a3), some (.int a4)]) (by decide) rfl rfl rfl ?_
  intro p e s m args below meth c E hr
  refine r_iload_n (pc := 0) E dX8_hour_0 rfl rfl ?_
  refine r_iconst (pc := 1) (v := 0) E dX8_hour_1 (by decide) ?_
  refine r_sipush (pc := 2) (v := 1000) E dX8_hour_2 (by decide) ?_
  refine afterI (pc := 5) E (fun H locs ls hP hS hl => runS (As := [.int a1, .int 0, .int 1000]) (rest := []) E (c_X8_within X _ _ _ _ _  h) cs_X8_within q_356 rfl rfl rfl rfl dX8_hour_5 hP hS hl) (fun r1 s1 h => ?_)
  refine r_if_eq (pc := 8) (tgt := 42) E dX8_hour_8 (by decide) (fun c1 => ?_) (fun c1 => ?_)
  · have h := h.1 c1
    refine r_ldc (pc := 42) (v := (-1000001)) E q_359 dX8_hour_42 ?_
    exact r_iret (pc := 44) E hr dX8_hour_44 h
  · have h := h.2 c1
    refine r_iload_n (pc := 11) E dX8_hour_11 rfl rfl ?_
    refine r_iconst (pc := 12) (v := 0) E dX8_hour_12 (by decide) ?_
    refine r_bipush (pc := 13) (v := 100) E dX8_hour_13 (by decide) ?_
    refine afterI (pc := 15) E (fun H locs ls hP hS hl => runS (As := [.int a2, .int 0, .int 100]) (rest := []) E (c_X8_within X _ _ _ _ _  h) cs_X8_within q_356 rfl rfl rfl rfl dX8_hour_15 hP hS hl) (fun r2 s2 h => ?_)
    refine r_if_eq (pc := 18) (tgt := 42) E dX8_hour_18 (by decide) (fun c2 => ?_) (fun c2 => ?_)
    · have h := h.1 c2
      refine r_ldc (pc := 42) (v := (-1000001)) E q_359 dX8_hour_42 ?_
      exact r_iret (pc := 44) E hr dX8_hour_44 h
    · have h := h.2 c2
      refine r_iload_n (pc := 21) E dX8_hour_21 rfl rfl ?_
      refine r_iconst (pc := 22) (v := 0) E dX8_hour_22 (by decide) ?_
      refine r_bipush (pc := 23) (v := 60) E dX8_hour_23 (by decide) ?_
      refine afterI (pc := 25) E (fun H locs ls hP hS hl => runS (As := [.int a3, .int 0, .int 60]) (rest := []) E (c_X8_within X _ _ _ _ _  h) cs_X8_within q_356 rfl rfl rfl rfl dX8_hour_25 hP hS hl) (fun r3 s3 h => ?_)
      refine r_if_eq (pc := 28) (tgt := 42) E dX8_hour_28 (by decide) (fun c3 => ?_) (fun c3 => ?_)
      · have h := h.1 c3
        refine r_ldc (pc := 42) (v := (-1000001)) E q_359 dX8_hour_42 ?_
        exact r_iret (pc := 44) E hr dX8_hour_44 h
      · have h := h.2 c3
        refine r_iload (pc := 31) E dX8_hour_31 rfl ?_
        refine r_iconst (pc := 33) (v := 0) E dX8_hour_33 (by decide) ?_
        refine r_bipush (pc := 34) (v := 10) E dX8_hour_34 (by decide) ?_
        refine afterI (pc := 36) E (fun H locs ls hP hS hl => runS (As := [.int a4, .int 0, .int 10]) (rest := []) E (c_X8_within X _ _ _ _ _  h) cs_X8_within q_356 rfl rfl rfl rfl dX8_hour_36 hP hS hl) (fun r4 s4 h => ?_)
        refine r_if_ne (pc := 39) (tgt := 45) E dX8_hour_39 (by decide) (fun c4 => ?_) (fun c4 => ?_)
        · have h := h.1 c4
          refine r_aload_n (pc := 45) E dX8_hour_45 rfl rfl ?_
          refine r_get (pc := 46) (j := 5) E ok_0 kc_8 rfl q_308 (svI rfl) dX8_hour_46 ?_
          refine r_sipush (pc := 49) (v := 5000) E dX8_hour_49 (by decide) ?_
          refine r_icmp_lt (pc := 52) (tgt := 58) E dX8_hour_52 (by decide) (fun c5 => ?_) (fun c5 => ?_)
          · have h := h.1 c5
            refine r_aload_n (pc := 58) E dX8_hour_58 rfl rfl ?_
            refine r_dup (pc := 59) E dX8_hour_59 rfl ?_
            refine r_get (pc := 60) (j := 5) E ok_0 kc_8 rfl q_308 (svI rfl) dX8_hour_60 ?_
            refine r_iconst (pc := 63) (v := 1) E dX8_hour_63 (by decide) ?_
            refine r_iadd (pc := 64) E dX8_hour_64 ?_
            refine r_put (pc := 65) (j := 5) E ok_0 kc_8 rfl q_308 rfl rfl rfl dX8_hour_65 (fun s5 es5 => ?_)
            have h := h s5 es5
            refine r_aload_n (pc := 68) E dX8_hour_68 rfl rfl ?_
            refine r_iload_n (pc := 69) E dX8_hour_69 rfl rfl ?_
            refine r_put (pc := 70) (j := 6) E ok_0 kc_8 rfl q_309 rfl rfl rfl dX8_hour_70 (fun s6 es6 => ?_)
            have h := h s6 es6
            refine r_aload_n (pc := 73) E dX8_hour_73 rfl rfl ?_
            refine r_iload_n (pc := 74) E dX8_hour_74 rfl rfl ?_
            refine afterV (pc := 75) E (fun H locs ls hP hS hl => runV (As := [.int a1]) (rest := []) E (c_X8_takeByTide X _ _ _  h) ok_0 kc_8.1 ci_X8_takeByTide q_431 rfl rfl rfl rfl dX8_hour_75 hP hS hl) (fun s7 h => ?_)
            refine r_iload_n (pc := 78) E dX8_hour_78 rfl rfl ?_
            refine r_aload_n (pc := 79) E dX8_hour_79 rfl rfl ?_
            refine r_get (pc := 80) (j := 4) E ok_0 kc_8 rfl q_307 (svI rfl) dX8_hour_80 ?_
            refine r_icmp_le (pc := 83) (tgt := 90) E dX8_hour_83 (by decide) (fun c6 => ?_) (fun c6 => ?_)
            · have h := h.1 c6
              refine r_aload_n (pc := 90) E dX8_hour_90 rfl rfl ?_
              refine r_iload_n (pc := 91) E dX8_hour_91 rfl rfl ?_
              refine afterV (pc := 92) E (fun H locs ls hP hS hl => runV (As := [.int a3]) (rest := []) E (c_X8_payBackRain X _ _ _  h) ok_0 kc_8.1 ci_X8_payBackRain q_443 rfl rfl rfl rfl dX8_hour_92 hP hS hl) (fun s8 h => ?_)
              refine r_aload_n (pc := 95) E dX8_hour_95 rfl rfl ?_
              refine r_iload (pc := 96) E dX8_hour_96 rfl ?_
              refine afterV (pc := 98) E (fun H locs ls hP hS hl => runV (As := [.int a4]) (rest := []) E (c_X8_wearAll X _ _ _  h) ok_0 kc_8.1 ci_X8_wearAll q_451 rfl rfl rfl rfl dX8_hour_98 hP hS hl) (fun s9 h => ?_)
              refine r_aload_n (pc := 101) E dX8_hour_101 rfl rfl ?_
              refine afterV (pc := 102) E (fun H locs ls hP hS hl => runV (As := []) (rest := []) E (c_X8_passAnHour X _  _  h) ok_0 kc_8.1 ci_X8_passAnHour q_463 rfl rfl rfl rfl dX8_hour_102 hP hS hl) (fun s10 h => ?_)
              refine r_aload_n (pc := 105) E dX8_hour_105 rfl rfl ?_
              refine r_get (pc := 106) (j := 9) (v := .ref (xa X 2)) E ok_0 kc_8 rfl q_312 rfl dX8_hour_106 ?_
              refine afterV (pc := 109) E (fun H locs ls hP hS hl => runV (As := []) (rest := []) E (c_X7_dropEnded X _  _  h) ok_2 kc_7.1 ci_X7_dropEnded q_467 rfl rfl rfl rfl dX8_hour_109 hP hS hl) (fun s11 h => ?_)
              refine r_aload_n (pc := 112) E dX8_hour_112 rfl rfl ?_
              refine r_get (pc := 113) (j := 9) (v := .ref (xa X 2)) E ok_0 kc_8 rfl q_312 rfl dX8_hour_113 ?_
              refine r_get (pc := 116) (j := 1) E ok_2 kc_7 rfl q_122 (svI rfl) dX8_hour_116 ?_
              exact r_iret (pc := 119) E hr dX8_hour_119 h
            · have h := h.2 c6
              refine r_aload_n (pc := 86) E dX8_hour_86 rfl rfl ?_
              refine afterV (pc := 87) E (fun H locs ls hP hS hl => runV (As := []) (rest := []) E (c_X8_endAllByWind X _  _  h) ok_0 kc_8.1 ci_X8_endAllByWind q_439 rfl rfl rfl rfl dX8_hour_87 hP hS hl) (fun s12 h => ?_)
              refine r_aload_n (pc := 90) E dX8_hour_90 rfl rfl ?_
              refine r_iload_n (pc := 91) E dX8_hour_91 rfl rfl ?_
              refine afterV (pc := 92) E (fun H locs ls hP hS hl => runV (As := [.int a3]) (rest := []) E (c_X8_payBackRain X _ _ _  h) ok_0 kc_8.1 ci_X8_payBackRain q_443 rfl rfl rfl rfl dX8_hour_92 hP hS hl) (fun s13 h => ?_)
              refine r_aload_n (pc := 95) E dX8_hour_95 rfl rfl ?_
              refine r_iload (pc := 96) E dX8_hour_96 rfl ?_
              refine afterV (pc := 98) E (fun H locs ls hP hS hl => runV (As := [.int a4]) (rest := []) E (c_X8_wearAll X _ _ _  h) ok_0 kc_8.1 ci_X8_wearAll q_451 rfl rfl rfl rfl dX8_hour_98 hP hS hl) (fun s14 h => ?_)
              refine r_aload_n (pc := 101) E dX8_hour_101 rfl rfl ?_
              refine afterV (pc := 102) E (fun H locs ls hP hS hl => runV (As := []) (rest := []) E (c_X8_passAnHour X _  _  h) ok_0 kc_8.1 ci_X8_passAnHour q_463 rfl rfl rfl rfl dX8_hour_102 hP hS hl) (fun s15 h => ?_)
              refine r_aload_n (pc := 105) E dX8_hour_105 rfl rfl ?_
              refine r_get (pc := 106) (j := 9) (v := .ref (xa X 2)) E ok_0 kc_8 rfl q_312 rfl dX8_hour_106 ?_
              refine afterV (pc := 109) E (fun H locs ls hP hS hl => runV (As := []) (rest := []) E (c_X7_dropEnded X _  _  h) ok_2 kc_7.1 ci_X7_dropEnded q_467 rfl rfl rfl rfl dX8_hour_109 hP hS hl) (fun s16 h => ?_)
              refine r_aload_n (pc := 112) E dX8_hour_112 rfl rfl ?_
              refine r_get (pc := 113) (j := 9) (v := .ref (xa X 2)) E ok_0 kc_8 rfl q_312 rfl dX8_hour_113 ?_
              refine r_get (pc := 116) (j := 1) E ok_2 kc_7 rfl q_122 (svI rfl) dX8_hour_116 ?_
              exact r_iret (pc := 119) E hr dX8_hour_119 h
          · have h := h.2 c5
            refine r_ldc (pc := 55) (v := (-1000002)) E q_382 dX8_hour_55 ?_
            exact r_iret (pc := 57) E hr dX8_hour_57 h
        · have h := h.2 c4
          refine r_ldc (pc := 42) (v := (-1000001)) E q_359 dX8_hour_42 ?_
          exact r_iret (pc := 44) E hr dX8_hour_44 h

/-! ChairFront$Tape.hasRoomFor -/
def rm_X5_hasRoomFor : Room := { frames := 0, cells := 0, slots := 0, locals := 0 }
theorem ci_X5_hasRoomFor : CI yX5_hasRoomFor RX5 cX5_hasRoomFor 2 (some .boolean) 1 := ⟨q_476, q_477, q_59, q_478, by decide +kernel⟩
def w_X5_hasRoomFor (s0 : ST) (a1 : Int32) (Q : Int32 → ST → Prop) : Prop := (((300 : Int32) < ((s0 5 1) + a1) → (Q 0 s0)) ∧ (¬ ((300 : Int32) < ((s0 5 1) + a1)) → (Q 1 s0)))
set_option maxRecDepth 100000 in
set_option maxHeartbeats 4000000 in
theorem c_X5_hasRoomFor {l : Launch} (X : XT) (s0 : ST) (a1 : Int32) (Q : Int32 → ST → Prop) (h : w_X5_hasRoomFor s0 a1 Q) : MetI l yX5_hasRoomFor (wS yX5_hasRoomFor cX5_hasRoomFor 2 (some .boolean)) rm_X5_hasRoomFor X s0 [.ref (xa X 5), .int a1] Q := by
  refine metG (own := RX5) (k := 0) (lv0 := [some (.ref (xa X 5)), some (.int a1)]) (by decide) rfl rfl rfl ?_
  intro p e s m args below meth c E hr
  refine r_aload_n (pc := 0) E dX5_hasRoomFor_0 rfl rfl ?_
  refine r_get (pc := 1) (j := 1) E ok_5 kc_5 rfl q_151 (svI rfl) dX5_hasRoomFor_1 ?_
  refine r_iload_n (pc := 4) E dX5_hasRoomFor_4 rfl rfl ?_
  refine r_iadd (pc := 5) E dX5_hasRoomFor_5 ?_
  refine r_aload_n (pc := 6) E dX5_hasRoomFor_6 rfl rfl ?_
  refine r_get (pc := 7) (j := 0) (v := .ref (xa X 6)) E ok_5 kc_5 rfl q_150 rfl dX5_hasRoomFor_7 ?_
  refine r_alen (pc := 10) (v := 300) E (by decide) rfl rfl rfl dX5_hasRoomFor_10 ?_
  refine r_icmp_gt (pc := 11) (tgt := 18) E dX5_hasRoomFor_11 (by decide) (fun c1 => ?_) (fun c1 => ?_)
  · have h := h.1 c1
    refine r_iconst (pc := 18) (v := 0) E dX5_hasRoomFor_18 (by decide) ?_
    exact r_zret (pc := 19) E hr dX5_hasRoomFor_19 rfl h
  · have h := h.2 c1
    refine r_iconst (pc := 14) (v := 1) E dX5_hasRoomFor_14 (by decide) ?_
    refine r_goto (pc := 15) (tgt := 19) E dX5_hasRoomFor_15 (by decide) ?_
    exact r_zret (pc := 19) E hr dX5_hasRoomFor_19 rfl h

/-! ChairFront$Tape.append -/
def rm_X5_append : Room := { frames := 0, cells := 0, slots := 0, locals := 0 }
theorem ci_X5_append : CI yX5_append RX5 cX5_append 5 none 2 := ⟨q_480, q_481, q_59, q_482, by decide +kernel⟩
def w_X5_append_L5 (v1 : Int64) (K : ST → Prop) (Q : ST → Prop) : Nat → ST → Int32 → Prop
  | 0, _, _ => False
  | n + 1, s0, v4 => ((v4 < 0 → (K s0)) ∧ (¬ (v4 < 0) → (vp_in (s0 5 1) 300 ∧ (∀ s1 : ST, s1 = up s0 6 (s0 5 1).toNatClampNeg (((((v1 >>> (((8 * v4) : Int32).toInt64 &&& 63)) : Int64).toInt32 : Int32).toInt8.toInt32 : Int32).toInt8.toInt32) → (∀ s2 : ST, s2 = up s1 5 1 ((s1 5 1) + 1) → (∀ x2 : Int32, x2 = v4 + (-1) → (w_X5_append_L5 v1 K Q n s2 x2)))))))
set_option maxRecDepth 100000 in
set_option maxHeartbeats 4000000 in
theorem t_X5_append_L5 {p : Program} {l : Launch} {e : Env} {s : State} {m : MethodId} {args : Array Value} {below : List Frame} {meth : Method} {c : Code} {X : XT} (E : Ev p rm_X5_append s m args meth c X (xA X) 5 0 0 cX5_append RX5) (hr : meth.sig.returnType = none) {v1 : Int64} {K : ST → Prop} {Q : ST → Prop} (hK : ∀ (s0 : ST), K s0 → G p l e rm_X5_append s m args below meth c X (xA X) 5 0 0 (MQ below (va_Qv Q (Bw X) (xA X)) args s 0 0 (xA X)) s0 44 [none, none, none, none, none] []) : ∀ (n : Nat) (s0 : ST) (v4 : Int32), w_X5_append_L5 v1 K Q n s0 v4 → G p l e rm_X5_append s m args below meth c X (xA X) 5 0 0 (MQ below (va_Qv Q (Bw X) (xA X)) args s 0 0 (xA X)) s0 5 [some (.ref (xa X 5)), some (.long v1), none, none, some (.int v4)] [] := by
  intro n
  induction n with
  | zero => intro s0 v4 h; exact h.elim
  | succ n ih =>
    intro s0 v4 h
    refine r_iload (pc := 5) E dX5_append_5 rfl ?_
    refine r_if_lt (pc := 7) (tgt := 44) E dX5_append_7 (by decide) (fun c1 => ?_) (fun c1 => ?_)
    · have h := h.1 c1
      exact r_forget (le_n (le_n (le_n (le_n (le_n le_0))))) (hK _  h)
    · have h := h.2 c1
      refine r_aload_n (pc := 10) E dX5_append_10 rfl rfl ?_
      refine r_get (pc := 11) (j := 0) (v := .ref (xa X 6)) E ok_5 kc_5 rfl q_150 rfl dX5_append_11 ?_
      refine r_aload_n (pc := 14) E dX5_append_14 rfl rfl ?_
      refine r_get (pc := 15) (j := 1) E ok_5 kc_5 rfl q_151 (svI rfl) dX5_append_15 ?_
      refine r_lload_n (pc := 18) E dX5_append_18 rfl rfl ?_
      refine r_bipush (pc := 19) (v := 8) E dX5_append_19 (by decide) ?_
      refine r_iload (pc := 21) E dX5_append_21 rfl ?_
      refine r_imul (pc := 23) E dX5_append_23 ?_
      refine r_lshr (pc := 24) E dX5_append_24 ?_
      refine r_l2i (pc := 25) E dX5_append_25 ?_
      refine r_i2b (pc := 26) E dX5_append_26 ?_
      refine r_bast (pc := 27) (n := 300) E ok_6 rfl h.1 dX5_append_27 (fun s1 es1 => ?_)
      have h := h.2 s1 es1
      refine r_aload_n (pc := 28) E dX5_append_28 rfl rfl ?_
      refine r_dup (pc := 29) E dX5_append_29 rfl ?_
      refine r_get (pc := 30) (j := 1) E ok_5 kc_5 rfl q_151 (svI rfl) dX5_append_30 ?_
      refine r_iconst (pc := 33) (v := 1) E dX5_append_33 (by decide) ?_
      refine r_iadd (pc := 34) E dX5_append_34 ?_
      refine r_put (pc := 35) (j := 1) E ok_5 kc_5 rfl q_151 rfl rfl rfl dX5_append_35 (fun s2 es2 => ?_)
      have h := h s2 es2
      obtain ⟨x2, ex2⟩ : ∃ z : Int32, z = v4 + (-1) := ⟨_, rfl⟩
      have h := h x2 ex2
      refine r_iinc (pc := 38) (v := (-1)) (lv' := [some (.ref (xa X 5)), some (.long v1), none, none, some (.int x2)]) E dX5_append_38 rfl (by decide) rfl rfl (by rw [ex2]; rfl) ?_
      refine r_goto (pc := 41) (tgt := 5) E dX5_append_41 (by decide) ?_
      exact r_forget (le_s (le_s (le_n (le_n (le_s le_0))))) (ih _ _ h)

def w_X5_append (s0 : ST) (a1 : Int64) (a3 : Int32) (Q : ST → Prop) : Prop := ∀ x1 : Int32, x1 = (a3 - 1) → (∃ n1 : Nat, w_X5_append_L5 a1 (fun (s3 : ST) => Q s3) Q n1 s0 x1)
set_option maxRecDepth 100000 in
set_option maxHeartbeats 4000000 in
theorem c_X5_append {l : Launch} (X : XT) (s0 : ST) (a1 : Int64) (a3 : Int32) (Q : ST → Prop) (h : w_X5_append s0 a1 a3 Q) : MetV l yX5_append (wS yX5_append cX5_append 5 none) rm_X5_append X s0 [.ref (xa X 5), .long a1, .int a3] Q := by
  refine metG (own := RX5) (k := 1) (lv0 := [some (.ref (xa X 5)), some (.long a1), none, some (.int a3), none]) (by decide) rfl rfl rfl ?_
  intro p e s m args below meth c E hr
  refine r_iload_n (pc := 0) E dX5_append_0 rfl rfl ?_
  refine r_iconst (pc := 1) (v := 1) E dX5_append_1 (by decide) ?_
  refine r_isub (pc := 2) E dX5_append_2 ?_
  refine r_topi (fun x1 ex1 => ?_)
  have h := h x1 ex1
  refine r_istore (pc := 3) (lv' := [some (.ref (xa X 5)), some (.long a1), none, some (.int a3), some (.int x1)]) E dX5_append_3 rfl rfl rfl ?_
  obtain ⟨n1, h⟩ := h
  refine r_forget (le_s (le_s (le_n (le_n (le_s le_0))))) (t_X5_append_L5 E hr ?_ n1 _ _ h)
  intro s3 h
  exact r_vret (pc := 44) E hr dX5_append_44 h

/-! ChairFront.feed -/
def rm_X8_feed : Room := { frames := 1, cells := 0, slots := 0, locals := 24 }
theorem ci_X8_feed : CI yX8_feed RX8 cX8_feed 4 (some .int) 2 := ⟨q_472, q_473, q_55, q_474, by decide +kernel⟩
def w_X8_feed (s0 : ST) (a1 : Int64) (a3 : Int32) (Q : Int32 → ST → Prop) : Prop := w_X8_within s0 a3 1 8 (fun r1 s1 => ((¬ r1 = 0 → (w_X5_hasRoomFor s1 a3 (fun r2 s2 => ((¬ r2 = 0 → (w_X5_append s2 a1 a3 (fun s3 => Q (s3 5 1) s3))) ∧ (r2 = 0 → (Q (-1000003) s2)))))) ∧ (r1 = 0 → (Q (-1000001) s1))))
set_option maxRecDepth 100000 in
set_option maxHeartbeats 4000000 in
theorem c_X8_feed {l : Launch} (X : XT) (s0 : ST) (a1 : Int64) (a3 : Int32) (Q : Int32 → ST → Prop) (h : w_X8_feed s0 a1 a3 Q) : MetI l yX8_feed (wS yX8_feed cX8_feed 4 (some .int)) rm_X8_feed X s0 [.ref (xa X 0), .long a1, .int a3] Q := by
  refine metG (own := RX8) (k := 0) (lv0 := [some (.ref (xa X 0)), some (.long a1), none, some (.int a3)]) (by decide) rfl rfl rfl ?_
  intro p e s m args below meth c E hr
  refine r_iload_n (pc := 0) E dX8_feed_0 rfl rfl ?_
  refine r_iconst (pc := 1) (v := 1) E dX8_feed_1 (by decide) ?_
  refine r_bipush (pc := 2) (v := 8) E dX8_feed_2 (by decide) ?_
  refine afterI (pc := 4) E (fun H locs ls hP hS hl => runS (As := [.int a3, .int 1, .int 8]) (rest := []) E (c_X8_within X _ _ _ _ _  h) cs_X8_within q_356 rfl rfl rfl rfl dX8_feed_4 hP hS hl) (fun r1 s1 h => ?_)
  refine r_if_ne (pc := 7) (tgt := 13) E dX8_feed_7 (by decide) (fun c1 => ?_) (fun c1 => ?_)
  · have h := h.1 c1
    refine r_aload_n (pc := 13) E dX8_feed_13 rfl rfl ?_
    refine r_get (pc := 14) (j := 10) (v := .ref (xa X 4)) E ok_0 kc_8 rfl q_313 rfl dX8_feed_14 ?_
    refine r_get (pc := 17) (j := 0) (v := .ref (xa X 5)) E ok_4 kc_2 rfl q_161 rfl dX8_feed_17 ?_
    refine r_iload_n (pc := 20) E dX8_feed_20 rfl rfl ?_
    refine afterI (pc := 21) E (fun H locs ls hP hS hl => runV (As := [.int a3]) (rest := []) E (c_X5_hasRoomFor X _ _ _  h) ok_5 kc_5.1 ci_X5_hasRoomFor q_475 rfl rfl rfl rfl dX8_feed_21 hP hS hl) (fun r2 s2 h => ?_)
    refine r_if_ne (pc := 24) (tgt := 30) E dX8_feed_24 (by decide) (fun c2 => ?_) (fun c2 => ?_)
    · have h := h.1 c2
      refine r_aload_n (pc := 30) E dX8_feed_30 rfl rfl ?_
      refine r_get (pc := 31) (j := 10) (v := .ref (xa X 4)) E ok_0 kc_8 rfl q_313 rfl dX8_feed_31 ?_
      refine r_get (pc := 34) (j := 0) (v := .ref (xa X 5)) E ok_4 kc_2 rfl q_161 rfl dX8_feed_34 ?_
      refine r_lload_n (pc := 37) E dX8_feed_37 rfl rfl ?_
      refine r_iload_n (pc := 38) E dX8_feed_38 rfl rfl ?_
      refine afterV (pc := 39) E (fun H locs ls hP hS hl => runV (As := [.long a1, .int a3]) (rest := []) E (c_X5_append X _ _ _ _  h) ok_5 kc_5.1 ci_X5_append q_479 rfl rfl rfl rfl dX8_feed_39 hP hS hl) (fun s3 h => ?_)
      refine r_aload_n (pc := 42) E dX8_feed_42 rfl rfl ?_
      refine r_get (pc := 43) (j := 10) (v := .ref (xa X 4)) E ok_0 kc_8 rfl q_313 rfl dX8_feed_43 ?_
      refine r_get (pc := 46) (j := 0) (v := .ref (xa X 5)) E ok_4 kc_2 rfl q_161 rfl dX8_feed_46 ?_
      refine r_get (pc := 49) (j := 1) E ok_5 kc_5 rfl q_152 (svI rfl) dX8_feed_49 ?_
      exact r_iret (pc := 52) E hr dX8_feed_52 h
    · have h := h.2 c2
      refine r_ldc (pc := 27) (v := (-1000003)) E q_360 dX8_feed_27 ?_
      exact r_iret (pc := 29) E hr dX8_feed_29 h
  · have h := h.2 c1
    refine r_ldc (pc := 10) (v := (-1000001)) E q_359 dX8_feed_10 ?_
    exact r_iret (pc := 12) E hr dX8_feed_12 h

/-! ChairFront$Rules.clear -/
def rm_X3_clear : Room := { frames := 0, cells := 0, slots := 0, locals := 0 }
theorem ci_X3_clear : CI yX3_clear RX3 cX3_clear 1 none 0 := ⟨q_488, q_489, q_60, q_490, by decide +kernel⟩
def w_X3_clear (s0 : ST) (k0 : Nat) (Q : ST → Prop) : Prop := ∀ s1 : ST, s1 = up s0 k0 0 0 → (∀ s2 : ST, s2 = up s1 k0 1 0 → (∀ s3 : ST, s3 = up s2 k0 2 0 → (∀ s4 : ST, s4 = up s3 k0 3 0 → (Q s4))))
set_option maxRecDepth 100000 in
set_option maxHeartbeats 4000000 in
theorem c_X3_clear {l : Launch} (X : XT) (s0 : ST) (k0 : Nat) (Q : ST → Prop) (hk0 : okc 3 k0) (h : w_X3_clear s0 k0 Q) : MetV l yX3_clear (wS yX3_clear cX3_clear 1 none) rm_X3_clear X s0 [.ref (xa X k0)] Q := by
  refine metG (own := RX3) (k := 0) (lv0 := [some (.ref (xa X k0))]) (by decide) rfl rfl rfl ?_
  intro p e s m args below meth c E hr
  refine r_aload_n (pc := 0) E dX3_clear_0 rfl rfl ?_
  refine r_iconst (pc := 1) (v := 0) E dX3_clear_1 (by decide) ?_
  refine r_put (pc := 2) (j := 0) E hk0 kc_3 rfl q_197 (r0R hk0 rfl) rfl rfl dX3_clear_2 (fun s1 es1 => ?_)
  have h := h s1 es1
  refine r_aload_n (pc := 5) E dX3_clear_5 rfl rfl ?_
  refine r_iconst (pc := 6) (v := 0) E dX3_clear_6 (by decide) ?_
  refine r_put (pc := 7) (j := 1) E hk0 kc_3 rfl q_200 (r0R hk0 rfl) rfl rfl dX3_clear_7 (fun s2 es2 => ?_)
  have h := h s2 es2
  refine r_aload_n (pc := 10) E dX3_clear_10 rfl rfl ?_
  refine r_iconst (pc := 11) (v := 0) E dX3_clear_11 (by decide) ?_
  refine r_put (pc := 12) (j := 2) E hk0 kc_3 rfl q_202 (r0R hk0 rfl) rfl rfl dX3_clear_12 (fun s3 es3 => ?_)
  have h := h s3 es3
  refine r_aload_n (pc := 15) E dX3_clear_15 rfl rfl ?_
  refine r_iconst (pc := 16) (v := 0) E dX3_clear_16 (by decide) ?_
  refine r_put (pc := 17) (j := 3) E hk0 kc_3 rfl q_204 (r0R hk0 rfl) rfl rfl dX3_clear_17 (fun s4 es4 => ?_)
  have h := h s4 es4
  exact r_vret (pc := 20) E hr dX3_clear_20 h

/-! ChairFront$Tape.at -/
def rm_X5_at : Room := { frames := 0, cells := 0, slots := 0, locals := 0 }
theorem ci_X5_at : CI yX5_at RX5 cX5_at 2 (some .int) 1 := ⟨q_504, q_505, q_59, q_506, by decide +kernel⟩
def w_X5_at (s0 : ST) (a1 : Int32) (Q : Int32 → ST → Prop) : Prop := ((a1 < 0 → (Q (-1) s0)) ∧ (¬ (a1 < 0) → ((((s0 5 1) ≤ a1 → (Q (-1) s0)) ∧ (¬ ((s0 5 1) ≤ a1) → (vp_in a1 300 ∧ (Q ((s0 6 a1.toNatClampNeg) &&& 255) s0)))))))
set_option maxRecDepth 100000 in
set_option maxHeartbeats 4000000 in
theorem c_X5_at {l : Launch} (X : XT) (s0 : ST) (a1 : Int32) (Q : Int32 → ST → Prop) (h : w_X5_at s0 a1 Q) : MetI l yX5_at (wS yX5_at cX5_at 2 (some .int)) rm_X5_at X s0 [.ref (xa X 5), .int a1] Q := by
  refine metG (own := RX5) (k := 0) (lv0 := [some (.ref (xa X 5)), some (.int a1)]) (by decide) rfl rfl rfl ?_
  intro p e s m args below meth c E hr
  refine r_iload_n (pc := 0) E dX5_at_0 rfl rfl ?_
  refine r_if_lt (pc := 1) (tgt := 25) E dX5_at_1 (by decide) (fun c1 => ?_) (fun c1 => ?_)
  · have h := h.1 c1
    refine r_iconst (pc := 25) (v := (-1)) E dX5_at_25 (by decide) ?_
    exact r_iret (pc := 26) E hr dX5_at_26 h
  · have h := h.2 c1
    refine r_iload_n (pc := 4) E dX5_at_4 rfl rfl ?_
    refine r_aload_n (pc := 5) E dX5_at_5 rfl rfl ?_
    refine r_get (pc := 6) (j := 1) E ok_5 kc_5 rfl q_151 (svI rfl) dX5_at_6 ?_
    refine r_icmp_ge (pc := 9) (tgt := 25) E dX5_at_9 (by decide) (fun c2 => ?_) (fun c2 => ?_)
    · have h := h.1 c2
      refine r_iconst (pc := 25) (v := (-1)) E dX5_at_25 (by decide) ?_
      exact r_iret (pc := 26) E hr dX5_at_26 h
    · have h := h.2 c2
      refine r_aload_n (pc := 12) E dX5_at_12 rfl rfl ?_
      refine r_get (pc := 13) (j := 0) (v := .ref (xa X 6)) E ok_5 kc_5 rfl q_150 rfl dX5_at_13 ?_
      refine r_iload_n (pc := 16) E dX5_at_16 rfl rfl ?_
      refine r_bald (pc := 17) (n := 300) E ok_6 rfl h.1 dX5_at_17 ?_
      have h := h.2
      refine r_sipush (pc := 18) (v := 255) E dX5_at_18 (by decide) ?_
      refine r_iand (pc := 21) E dX5_at_21 ?_
      refine r_goto (pc := 22) (tgt := 26) E dX5_at_22 (by decide) ?_
      exact r_iret (pc := 26) E hr dX5_at_26 h

/-! ChairFront$Reader.isBlank -/
def rm_X2_isBlank : Room := { frames := 0, cells := 0, slots := 0, locals := 0 }
theorem cs_X2_isBlank : CS yX2_isBlank cX2_isBlank 1 (some .boolean) 1 := ⟨q_508, q_58, q_509, by decide +kernel⟩
def w_X2_isBlank (s0 : ST) (a0 : Int32) (Q : Int32 → ST → Prop) : Prop := ((a0 = 32 → (Q 1 s0)) ∧ (¬ (a0 = 32) → (((¬ a0 = 10 → (Q 0 s0)) ∧ (a0 = 10 → (Q 1 s0))))))
set_option maxRecDepth 100000 in
set_option maxHeartbeats 4000000 in
theorem c_X2_isBlank {l : Launch} (X : XT) (s0 : ST) (a0 : Int32) (Q : Int32 → ST → Prop) (h : w_X2_isBlank s0 a0 Q) : MetI l yX2_isBlank (wS yX2_isBlank cX2_isBlank 1 (some .boolean)) rm_X2_isBlank X s0 [.int a0] Q := by
  refine metG (own := RX2) (k := 0) (lv0 := [some (.int a0)]) (by decide) rfl rfl rfl ?_
  intro p e s m args below meth c E hr
  refine r_iload_n (pc := 0) E dX2_isBlank_0 rfl rfl ?_
  refine r_bipush (pc := 1) (v := 32) E dX2_isBlank_1 (by decide) ?_
  refine r_icmp_eq (pc := 3) (tgt := 12) E dX2_isBlank_3 (by decide) (fun c1 => ?_) (fun c1 => ?_)
  · have h := h.1 c1
    refine r_iconst (pc := 12) (v := 1) E dX2_isBlank_12 (by decide) ?_
    refine r_goto (pc := 13) (tgt := 17) E dX2_isBlank_13 (by decide) ?_
    exact r_zret (pc := 17) E hr dX2_isBlank_17 rfl h
  · have h := h.2 c1
    refine r_iload_n (pc := 6) E dX2_isBlank_6 rfl rfl ?_
    refine r_bipush (pc := 7) (v := 10) E dX2_isBlank_7 (by decide) ?_
    refine r_icmp_ne (pc := 9) (tgt := 16) E dX2_isBlank_9 (by decide) (fun c2 => ?_) (fun c2 => ?_)
    · have h := h.1 c2
      refine r_iconst (pc := 16) (v := 0) E dX2_isBlank_16 (by decide) ?_
      exact r_zret (pc := 17) E hr dX2_isBlank_17 rfl h
    · have h := h.2 c2
      refine r_iconst (pc := 12) (v := 1) E dX2_isBlank_12 (by decide) ?_
      refine r_goto (pc := 13) (tgt := 17) E dX2_isBlank_13 (by decide) ?_
      exact r_zret (pc := 17) E hr dX2_isBlank_17 rfl h

/-! ChairFront$Reader.skipBlanks -/
def rm_X2_skipBlanks : Room := { frames := 1, cells := 0, slots := 0, locals := 21 }
theorem ci_X2_skipBlanks : CI yX2_skipBlanks RX2 cX2_skipBlanks 1 none 0 := ⟨q_501, q_12, q_58, q_502, by decide +kernel⟩
def w_X2_skipBlanks_L0 (K : ST → Prop) (Q : ST → Prop) : Nat → ST → Prop
  | 0, _ => False
  | n + 1, s0 => (((s0 5 1) ≤ (s0 4 3) → (K s0)) ∧ (¬ ((s0 5 1) ≤ (s0 4 3)) → (w_X5_at s0 (s0 4 3) (fun r1 s1 => w_X2_isBlank s1 r1 (fun r2 s2 => ((r2 = 0 → (K s2)) ∧ (¬ (r2 = 0) → (∀ s3 : ST, s3 = up s2 4 3 ((s2 4 3) + 1) → (w_X2_skipBlanks_L0 K Q n s3)))))))))
set_option maxRecDepth 100000 in
set_option maxHeartbeats 4000000 in
theorem t_X2_skipBlanks_L0 {p : Program} {l : Launch} {e : Env} {s : State} {m : MethodId} {args : Array Value} {below : List Frame} {meth : Method} {c : Code} {X : XT} (E : Ev p rm_X2_skipBlanks s m args meth c X (xA X) 1 0 0 cX2_skipBlanks RX2) (hr : meth.sig.returnType = none) {K : ST → Prop} {Q : ST → Prop} (hK : ∀ (s0 : ST), K s0 → G p l e rm_X2_skipBlanks s m args below meth c X (xA X) 1 0 0 (MQ below (va_Qv Q (Bw X) (xA X)) args s 0 0 (xA X)) s0 44 [none] []) : ∀ (n : Nat) (s0 : ST), w_X2_skipBlanks_L0 K Q n s0 → G p l e rm_X2_skipBlanks s m args below meth c X (xA X) 1 0 0 (MQ below (va_Qv Q (Bw X) (xA X)) args s 0 0 (xA X)) s0 0 [some (.ref (xa X 4))] [] := by
  intro n
  induction n with
  | zero => intro s0 h; exact h.elim
  | succ n ih =>
    intro s0 h
    refine r_aload_n (pc := 0) E dX2_skipBlanks_0 rfl rfl ?_
    refine r_get (pc := 1) (j := 3) E ok_4 kc_2 rfl q_164 (svI rfl) dX2_skipBlanks_1 ?_
    refine r_aload_n (pc := 4) E dX2_skipBlanks_4 rfl rfl ?_
    refine r_get (pc := 5) (j := 0) (v := .ref (xa X 5)) E ok_4 kc_2 rfl q_160 rfl dX2_skipBlanks_5 ?_
    refine r_get (pc := 8) (j := 1) E ok_5 kc_5 rfl q_153 (svI rfl) dX2_skipBlanks_8 ?_
    refine r_icmp_ge (pc := 11) (tgt := 44) E dX2_skipBlanks_11 (by decide) (fun c1 => ?_) (fun c1 => ?_)
    · have h := h.1 c1
      exact r_forget (le_n le_0) (hK _  h)
    · have h := h.2 c1
      refine r_aload_n (pc := 14) E dX2_skipBlanks_14 rfl rfl ?_
      refine r_get (pc := 15) (j := 0) (v := .ref (xa X 5)) E ok_4 kc_2 rfl q_160 rfl dX2_skipBlanks_15 ?_
      refine r_aload_n (pc := 18) E dX2_skipBlanks_18 rfl rfl ?_
      refine r_get (pc := 19) (j := 3) E ok_4 kc_2 rfl q_164 (svI rfl) dX2_skipBlanks_19 ?_
      refine afterI (pc := 22) E (fun H locs ls hP hS hl => runV (As := [.int (s0 4 3)]) (rest := []) E (c_X5_at X _ _ _  h) ok_5 kc_5.1 ci_X5_at q_503 rfl rfl rfl rfl dX2_skipBlanks_22 hP hS hl) (fun r1 s1 h => ?_)
      refine afterI (pc := 25) E (fun H locs ls hP hS hl => runS (As := [.int r1]) (rest := []) E (c_X2_isBlank X _ _ _  h) cs_X2_isBlank q_507 rfl rfl rfl rfl dX2_skipBlanks_25 hP hS hl) (fun r2 s2 h => ?_)
      refine r_if_eq (pc := 28) (tgt := 44) E dX2_skipBlanks_28 (by decide) (fun c2 => ?_) (fun c2 => ?_)
      · have h := h.1 c2
        exact r_forget (le_n le_0) (hK _  h)
      · have h := h.2 c2
        refine r_aload_n (pc := 31) E dX2_skipBlanks_31 rfl rfl ?_
        refine r_dup (pc := 32) E dX2_skipBlanks_32 rfl ?_
        refine r_get (pc := 33) (j := 3) E ok_4 kc_2 rfl q_164 (svI rfl) dX2_skipBlanks_33 ?_
        refine r_iconst (pc := 36) (v := 1) E dX2_skipBlanks_36 (by decide) ?_
        refine r_iadd (pc := 37) E dX2_skipBlanks_37 ?_
        refine r_put (pc := 38) (j := 3) E ok_4 kc_2 rfl q_164 rfl rfl rfl dX2_skipBlanks_38 (fun s3 es3 => ?_)
        have h := h s3 es3
        refine r_goto (pc := 41) (tgt := 0) E dX2_skipBlanks_41 (by decide) ?_
        exact r_forget (le_s le_0) (ih _  h)

def w_X2_skipBlanks (s0 : ST) (Q : ST → Prop) : Prop := ∃ n1 : Nat, w_X2_skipBlanks_L0 (fun (s4 : ST) => Q s4) Q n1 s0
set_option maxRecDepth 100000 in
set_option maxHeartbeats 4000000 in
theorem c_X2_skipBlanks {l : Launch} (X : XT) (s0 : ST) (Q : ST → Prop) (h : w_X2_skipBlanks s0 Q) : MetV l yX2_skipBlanks (wS yX2_skipBlanks cX2_skipBlanks 1 none) rm_X2_skipBlanks X s0 [.ref (xa X 4)] Q := by
  refine metG (own := RX2) (k := 0) (lv0 := [some (.ref (xa X 4))]) (by decide) rfl rfl rfl ?_
  intro p e s m args below meth c E hr
  obtain ⟨n1, h⟩ := h
  refine r_forget (le_s le_0) (t_X2_skipBlanks_L0 E hr ?_ n1 _  h)
  intro s4 h
  exact r_vret (pc := 44) E hr dX2_skipBlanks_44 h

/-! ChairFront$Reader.isLetter -/
def rm_X2_isLetter : Room := { frames := 0, cells := 0, slots := 0, locals := 0 }
theorem cs_X2_isLetter : CS yX2_isLetter cX2_isLetter 1 (some .boolean) 1 := ⟨q_511, q_58, q_512, by decide +kernel⟩
def w_X2_isLetter (s0 : ST) (a0 : Int32) (Q : Int32 → ST → Prop) : Prop := ((a0 < 97 → (Q 0 s0)) ∧ (¬ (a0 < 97) → ((((122 : Int32) < a0 → (Q 0 s0)) ∧ (¬ ((122 : Int32) < a0) → (Q 1 s0))))))
set_option maxRecDepth 100000 in
set_option maxHeartbeats 4000000 in
theorem c_X2_isLetter {l : Launch} (X : XT) (s0 : ST) (a0 : Int32) (Q : Int32 → ST → Prop) (h : w_X2_isLetter s0 a0 Q) : MetI l yX2_isLetter (wS yX2_isLetter cX2_isLetter 1 (some .boolean)) rm_X2_isLetter X s0 [.int a0] Q := by
  refine metG (own := RX2) (k := 0) (lv0 := [some (.int a0)]) (by decide) rfl rfl rfl ?_
  intro p e s m args below meth c E hr
  refine r_iload_n (pc := 0) E dX2_isLetter_0 rfl rfl ?_
  refine r_bipush (pc := 1) (v := 97) E dX2_isLetter_1 (by decide) ?_
  refine r_icmp_lt (pc := 3) (tgt := 16) E dX2_isLetter_3 (by decide) (fun c1 => ?_) (fun c1 => ?_)
  · have h := h.1 c1
    refine r_iconst (pc := 16) (v := 0) E dX2_isLetter_16 (by decide) ?_
    exact r_zret (pc := 17) E hr dX2_isLetter_17 rfl h
  · have h := h.2 c1
    refine r_iload_n (pc := 6) E dX2_isLetter_6 rfl rfl ?_
    refine r_bipush (pc := 7) (v := 122) E dX2_isLetter_7 (by decide) ?_
    refine r_icmp_gt (pc := 9) (tgt := 16) E dX2_isLetter_9 (by decide) (fun c2 => ?_) (fun c2 => ?_)
    · have h := h.1 c2
      refine r_iconst (pc := 16) (v := 0) E dX2_isLetter_16 (by decide) ?_
      exact r_zret (pc := 17) E hr dX2_isLetter_17 rfl h
    · have h := h.2 c2
      refine r_iconst (pc := 12) (v := 1) E dX2_isLetter_12 (by decide) ?_
      refine r_goto (pc := 13) (tgt := 17) E dX2_isLetter_13 (by decide) ?_
      exact r_zret (pc := 17) E hr dX2_isLetter_17 rfl h

/-! ChairFront$Reader.passName -/
def rm_X2_passName : Room := { frames := 1, cells := 0, slots := 0, locals := 21 }
theorem ci_X2_passName : CI yX2_passName RX2 cX2_passName 1 none 0 := ⟨q_515, q_13, q_58, q_516, by decide +kernel⟩
def w_X2_passName_L0 (K : ST → Prop) (Q : ST → Prop) : Nat → ST → Prop
  | 0, _ => False
  | n + 1, s0 => (((s0 5 1) ≤ (s0 4 3) → (K s0)) ∧ (¬ ((s0 5 1) ≤ (s0 4 3)) → (w_X5_at s0 (s0 4 3) (fun r1 s1 => w_X2_isLetter s1 r1 (fun r2 s2 => ((r2 = 0 → (K s2)) ∧ (¬ (r2 = 0) → (∀ s3 : ST, s3 = up s2 4 3 ((s2 4 3) + 1) → (w_X2_passName_L0 K Q n s3)))))))))
set_option maxRecDepth 100000 in
set_option maxHeartbeats 4000000 in
theorem t_X2_passName_L0 {p : Program} {l : Launch} {e : Env} {s : State} {m : MethodId} {args : Array Value} {below : List Frame} {meth : Method} {c : Code} {X : XT} (E : Ev p rm_X2_passName s m args meth c X (xA X) 1 0 0 cX2_passName RX2) (hr : meth.sig.returnType = none) {K : ST → Prop} {Q : ST → Prop} (hK : ∀ (s0 : ST), K s0 → G p l e rm_X2_passName s m args below meth c X (xA X) 1 0 0 (MQ below (va_Qv Q (Bw X) (xA X)) args s 0 0 (xA X)) s0 44 [some (.ref (xa X 4))] []) : ∀ (n : Nat) (s0 : ST), w_X2_passName_L0 K Q n s0 → G p l e rm_X2_passName s m args below meth c X (xA X) 1 0 0 (MQ below (va_Qv Q (Bw X) (xA X)) args s 0 0 (xA X)) s0 0 [some (.ref (xa X 4))] [] := by
  intro n
  induction n with
  | zero => intro s0 h; exact h.elim
  | succ n ih =>
    intro s0 h
    refine r_aload_n (pc := 0) E dX2_passName_0 rfl rfl ?_
    refine r_get (pc := 1) (j := 3) E ok_4 kc_2 rfl q_164 (svI rfl) dX2_passName_1 ?_
    refine r_aload_n (pc := 4) E dX2_passName_4 rfl rfl ?_
    refine r_get (pc := 5) (j := 0) (v := .ref (xa X 5)) E ok_4 kc_2 rfl q_160 rfl dX2_passName_5 ?_
    refine r_get (pc := 8) (j := 1) E ok_5 kc_5 rfl q_153 (svI rfl) dX2_passName_8 ?_
    refine r_icmp_ge (pc := 11) (tgt := 44) E dX2_passName_11 (by decide) (fun c1 => ?_) (fun c1 => ?_)
    · have h := h.1 c1
      exact r_forget (le_s le_0) (hK _  h)
    · have h := h.2 c1
      refine r_aload_n (pc := 14) E dX2_passName_14 rfl rfl ?_
      refine r_get (pc := 15) (j := 0) (v := .ref (xa X 5)) E ok_4 kc_2 rfl q_160 rfl dX2_passName_15 ?_
      refine r_aload_n (pc := 18) E dX2_passName_18 rfl rfl ?_
      refine r_get (pc := 19) (j := 3) E ok_4 kc_2 rfl q_164 (svI rfl) dX2_passName_19 ?_
      refine afterI (pc := 22) E (fun H locs ls hP hS hl => runV (As := [.int (s0 4 3)]) (rest := []) E (c_X5_at X _ _ _  h) ok_5 kc_5.1 ci_X5_at q_503 rfl rfl rfl rfl dX2_passName_22 hP hS hl) (fun r1 s1 h => ?_)
      refine afterI (pc := 25) E (fun H locs ls hP hS hl => runS (As := [.int r1]) (rest := []) E (c_X2_isLetter X _ _ _  h) cs_X2_isLetter q_510 rfl rfl rfl rfl dX2_passName_25 hP hS hl) (fun r2 s2 h => ?_)
      refine r_if_eq (pc := 28) (tgt := 44) E dX2_passName_28 (by decide) (fun c2 => ?_) (fun c2 => ?_)
      · have h := h.1 c2
        exact r_forget (le_s le_0) (hK _  h)
      · have h := h.2 c2
        refine r_aload_n (pc := 31) E dX2_passName_31 rfl rfl ?_
        refine r_dup (pc := 32) E dX2_passName_32 rfl ?_
        refine r_get (pc := 33) (j := 3) E ok_4 kc_2 rfl q_164 (svI rfl) dX2_passName_33 ?_
        refine r_iconst (pc := 36) (v := 1) E dX2_passName_36 (by decide) ?_
        refine r_iadd (pc := 37) E dX2_passName_37 ?_
        refine r_put (pc := 38) (j := 3) E ok_4 kc_2 rfl q_164 rfl rfl rfl dX2_passName_38 (fun s3 es3 => ?_)
        have h := h s3 es3
        refine r_goto (pc := 41) (tgt := 0) E dX2_passName_41 (by decide) ?_
        exact r_forget (le_s le_0) (ih _  h)

def w_X2_passName (s0 : ST) (Q : ST → Prop) : Prop := ∃ n1 : Nat, w_X2_passName_L0 (fun (s4 : ST) => (((6 : Int32) < ((s4 4 3) - (s4 4 2)) → (∀ s5 : ST, s5 = up s4 4 1 4 → (Q s5))) ∧ (¬ ((6 : Int32) < ((s4 4 3) - (s4 4 2))) → (∀ s6 : ST, s6 = up s4 4 1 1 → (Q s6))))) Q n1 s0
set_option maxRecDepth 100000 in
set_option maxHeartbeats 4000000 in
theorem c_X2_passName {l : Launch} (X : XT) (s0 : ST) (Q : ST → Prop) (h : w_X2_passName s0 Q) : MetV l yX2_passName (wS yX2_passName cX2_passName 1 none) rm_X2_passName X s0 [.ref (xa X 4)] Q := by
  refine metG (own := RX2) (k := 0) (lv0 := [some (.ref (xa X 4))]) (by decide) rfl rfl rfl ?_
  intro p e s m args below meth c E hr
  obtain ⟨n1, h⟩ := h
  refine r_forget (le_s le_0) (t_X2_passName_L0 E hr ?_ n1 _  h)
  intro s4 h
  refine r_aload_n (pc := 44) E dX2_passName_44 rfl rfl ?_
  refine r_aload_n (pc := 45) E dX2_passName_45 rfl rfl ?_
  refine r_get (pc := 46) (j := 3) E ok_4 kc_2 rfl q_164 (svI rfl) dX2_passName_46 ?_
  refine r_aload_n (pc := 49) E dX2_passName_49 rfl rfl ?_
  refine r_get (pc := 50) (j := 2) E ok_4 kc_2 rfl q_163 (svI rfl) dX2_passName_50 ?_
  refine r_isub (pc := 53) E dX2_passName_53 ?_
  refine r_bipush (pc := 54) (v := 6) E dX2_passName_54 (by decide) ?_
  refine r_icmp_gt (pc := 56) (tgt := 63) E dX2_passName_56 (by decide) (fun c3 => ?_) (fun c3 => ?_)
  · have h := h.1 c3
    refine r_iconst (pc := 63) (v := 4) E dX2_passName_63 (by decide) ?_
    refine r_put (pc := 64) (j := 1) E ok_4 kc_2 rfl q_162 rfl rfl rfl dX2_passName_64 (fun s5 es5 => ?_)
    have h := h s5 es5
    exact r_vret (pc := 67) E hr dX2_passName_67 h
  · have h := h.2 c3
    refine r_iconst (pc := 59) (v := 1) E dX2_passName_59 (by decide) ?_
    refine r_goto (pc := 60) (tgt := 64) E dX2_passName_60 (by decide) ?_
    refine r_put (pc := 64) (j := 1) E ok_4 kc_2 rfl q_162 rfl rfl rfl dX2_passName_64 (fun s6 es6 => ?_)
    have h := h s6 es6
    exact r_vret (pc := 67) E hr dX2_passName_67 h

/-! ChairFront$Reader.isFigure -/
def rm_X2_isFigure : Room := { frames := 0, cells := 0, slots := 0, locals := 0 }
theorem cs_X2_isFigure : CS yX2_isFigure cX2_isFigure 1 (some .boolean) 1 := ⟨q_518, q_58, q_519, by decide +kernel⟩
def w_X2_isFigure (s0 : ST) (a0 : Int32) (Q : Int32 → ST → Prop) : Prop := ((a0 < 48 → (Q 0 s0)) ∧ (¬ (a0 < 48) → ((((57 : Int32) < a0 → (Q 0 s0)) ∧ (¬ ((57 : Int32) < a0) → (Q 1 s0))))))
set_option maxRecDepth 100000 in
set_option maxHeartbeats 4000000 in
theorem c_X2_isFigure {l : Launch} (X : XT) (s0 : ST) (a0 : Int32) (Q : Int32 → ST → Prop) (h : w_X2_isFigure s0 a0 Q) : MetI l yX2_isFigure (wS yX2_isFigure cX2_isFigure 1 (some .boolean)) rm_X2_isFigure X s0 [.int a0] Q := by
  refine metG (own := RX2) (k := 0) (lv0 := [some (.int a0)]) (by decide) rfl rfl rfl ?_
  intro p e s m args below meth c E hr
  refine r_iload_n (pc := 0) E dX2_isFigure_0 rfl rfl ?_
  refine r_bipush (pc := 1) (v := 48) E dX2_isFigure_1 (by decide) ?_
  refine r_icmp_lt (pc := 3) (tgt := 16) E dX2_isFigure_3 (by decide) (fun c1 => ?_) (fun c1 => ?_)
  · have h := h.1 c1
    refine r_iconst (pc := 16) (v := 0) E dX2_isFigure_16 (by decide) ?_
    exact r_zret (pc := 17) E hr dX2_isFigure_17 rfl h
  · have h := h.2 c1
    refine r_iload_n (pc := 6) E dX2_isFigure_6 rfl rfl ?_
    refine r_bipush (pc := 7) (v := 57) E dX2_isFigure_7 (by decide) ?_
    refine r_icmp_gt (pc := 9) (tgt := 16) E dX2_isFigure_9 (by decide) (fun c2 => ?_) (fun c2 => ?_)
    · have h := h.1 c2
      refine r_iconst (pc := 16) (v := 0) E dX2_isFigure_16 (by decide) ?_
      exact r_zret (pc := 17) E hr dX2_isFigure_17 rfl h
    · have h := h.2 c2
      refine r_iconst (pc := 12) (v := 1) E dX2_isFigure_12 (by decide) ?_
      refine r_goto (pc := 13) (tgt := 17) E dX2_isFigure_13 (by decide) ?_
      exact r_zret (pc := 17) E hr dX2_isFigure_17 rfl h

/-! ChairFront$Reader.passNumber -/
def rm_X2_passNumber : Room := { frames := 1, cells := 0, slots := 0, locals := 21 }
theorem ci_X2_passNumber : CI yX2_passNumber RX2 cX2_passNumber 1 none 0 := ⟨q_522, q_14, q_58, q_523, by decide +kernel⟩
def w_X2_passNumber_L5 (K : ST → Prop) (Q : ST → Prop) : Nat → ST → Prop
  | 0, _ => False
  | n + 1, s0 => (((s0 5 1) ≤ (s0 4 3) → (K s0)) ∧ (¬ ((s0 5 1) ≤ (s0 4 3)) → (w_X5_at s0 (s0 4 3) (fun r1 s2 => w_X2_isFigure s2 r1 (fun r2 s3 => ((r2 = 0 → (K s3)) ∧ (¬ (r2 = 0) → ((((5 : Int32) ≤ ((s3 4 3) - (s3 4 2)) → (∀ s4 : ST, s4 = up s3 4 3 ((s3 4 3) + 1) → (w_X2_passNumber_L5 K Q n s4))) ∧ (¬ ((5 : Int32) ≤ ((s3 4 3) - (s3 4 2))) → (w_X5_at s3 (s3 4 3) (fun r3 s5 => ∀ s6 : ST, s6 = up s5 4 4 (((s3 4 4) * 10) + (r3 - 48)) → (∀ s7 : ST, s7 = up s6 4 3 ((s6 4 3) + 1) → (w_X2_passNumber_L5 K Q n s7))))))))))))))
set_option maxRecDepth 100000 in
set_option maxHeartbeats 4000000 in
theorem t_X2_passNumber_L5 {p : Program} {l : Launch} {e : Env} {s : State} {m : MethodId} {args : Array Value} {below : List Frame} {meth : Method} {c : Code} {X : XT} (E : Ev p rm_X2_passNumber s m args meth c X (xA X) 1 0 0 cX2_passNumber RX2) (hr : meth.sig.returnType = none) {K : ST → Prop} {Q : ST → Prop} (hK : ∀ (s0 : ST), K s0 → G p l e rm_X2_passNumber s m args below meth c X (xA X) 1 0 0 (MQ below (va_Qv Q (Bw X) (xA X)) args s 0 0 (xA X)) s0 88 [some (.ref (xa X 4))] []) : ∀ (n : Nat) (s0 : ST), w_X2_passNumber_L5 K Q n s0 → G p l e rm_X2_passNumber s m args below meth c X (xA X) 1 0 0 (MQ below (va_Qv Q (Bw X) (xA X)) args s 0 0 (xA X)) s0 5 [some (.ref (xa X 4))] [] := by
  intro n
  induction n with
  | zero => intro s0 h; exact h.elim
  | succ n ih =>
    intro s0 h
    refine r_aload_n (pc := 5) E dX2_passNumber_5 rfl rfl ?_
    refine r_get (pc := 6) (j := 3) E ok_4 kc_2 rfl q_164 (svI rfl) dX2_passNumber_6 ?_
    refine r_aload_n (pc := 9) E dX2_passNumber_9 rfl rfl ?_
    refine r_get (pc := 10) (j := 0) (v := .ref (xa X 5)) E ok_4 kc_2 rfl q_160 rfl dX2_passNumber_10 ?_
    refine r_get (pc := 13) (j := 1) E ok_5 kc_5 rfl q_153 (svI rfl) dX2_passNumber_13 ?_
    refine r_icmp_ge (pc := 16) (tgt := 88) E dX2_passNumber_16 (by decide) (fun c1 => ?_) (fun c1 => ?_)
    · have h := h.1 c1
      exact r_forget (le_s le_0) (hK _  h)
    · have h := h.2 c1
      refine r_aload_n (pc := 19) E dX2_passNumber_19 rfl rfl ?_
      refine r_get (pc := 20) (j := 0) (v := .ref (xa X 5)) E ok_4 kc_2 rfl q_160 rfl dX2_passNumber_20 ?_
      refine r_aload_n (pc := 23) E dX2_passNumber_23 rfl rfl ?_
      refine r_get (pc := 24) (j := 3) E ok_4 kc_2 rfl q_164 (svI rfl) dX2_passNumber_24 ?_
      refine afterI (pc := 27) E (fun H locs ls hP hS hl => runV (As := [.int (s0 4 3)]) (rest := []) E (c_X5_at X _ _ _  h) ok_5 kc_5.1 ci_X5_at q_503 rfl rfl rfl rfl dX2_passNumber_27 hP hS hl) (fun r1 s2 h => ?_)
      refine afterI (pc := 30) E (fun H locs ls hP hS hl => runS (As := [.int r1]) (rest := []) E (c_X2_isFigure X _ _ _  h) cs_X2_isFigure q_517 rfl rfl rfl rfl dX2_passNumber_30 hP hS hl) (fun r2 s3 h => ?_)
      refine r_if_eq (pc := 33) (tgt := 88) E dX2_passNumber_33 (by decide) (fun c2 => ?_) (fun c2 => ?_)
      · have h := h.1 c2
        exact r_forget (le_s le_0) (hK _  h)
      · have h := h.2 c2
        refine r_aload_n (pc := 36) E dX2_passNumber_36 rfl rfl ?_
        refine r_get (pc := 37) (j := 3) E ok_4 kc_2 rfl q_164 (svI rfl) dX2_passNumber_37 ?_
        refine r_aload_n (pc := 40) E dX2_passNumber_40 rfl rfl ?_
        refine r_get (pc := 41) (j := 2) E ok_4 kc_2 rfl q_163 (svI rfl) dX2_passNumber_41 ?_
        refine r_isub (pc := 44) E dX2_passNumber_44 ?_
        refine r_iconst (pc := 45) (v := 5) E dX2_passNumber_45 (by decide) ?_
        refine r_icmp_ge (pc := 46) (tgt := 75) E dX2_passNumber_46 (by decide) (fun c3 => ?_) (fun c3 => ?_)
        · have h := h.1 c3
          refine r_aload_n (pc := 75) E dX2_passNumber_75 rfl rfl ?_
          refine r_dup (pc := 76) E dX2_passNumber_76 rfl ?_
          refine r_get (pc := 77) (j := 3) E ok_4 kc_2 rfl q_164 (svI rfl) dX2_passNumber_77 ?_
          refine r_iconst (pc := 80) (v := 1) E dX2_passNumber_80 (by decide) ?_
          refine r_iadd (pc := 81) E dX2_passNumber_81 ?_
          refine r_put (pc := 82) (j := 3) E ok_4 kc_2 rfl q_164 rfl rfl rfl dX2_passNumber_82 (fun s4 es4 => ?_)
          have h := h s4 es4
          refine r_goto (pc := 85) (tgt := 5) E dX2_passNumber_85 (by decide) ?_
          exact r_forget (le_s le_0) (ih _  h)
        · have h := h.2 c3
          refine r_aload_n (pc := 49) E dX2_passNumber_49 rfl rfl ?_
          refine r_aload_n (pc := 50) E dX2_passNumber_50 rfl rfl ?_
          refine r_get (pc := 51) (j := 4) E ok_4 kc_2 rfl q_165 (svI rfl) dX2_passNumber_51 ?_
          refine r_bipush (pc := 54) (v := 10) E dX2_passNumber_54 (by decide) ?_
          refine r_imul (pc := 56) E dX2_passNumber_56 ?_
          refine r_aload_n (pc := 57) E dX2_passNumber_57 rfl rfl ?_
          refine r_get (pc := 58) (j := 0) (v := .ref (xa X 5)) E ok_4 kc_2 rfl q_160 rfl dX2_passNumber_58 ?_
          refine r_aload_n (pc := 61) E dX2_passNumber_61 rfl rfl ?_
          refine r_get (pc := 62) (j := 3) E ok_4 kc_2 rfl q_164 (svI rfl) dX2_passNumber_62 ?_
          refine afterI (pc := 65) E (fun H locs ls hP hS hl => runV (As := [.int (s3 4 3)]) (rest := [.int ((s3 4 4) * 10), .ref (xa X 4)]) E (c_X5_at X _ _ _  h) ok_5 kc_5.1 ci_X5_at q_503 rfl rfl rfl rfl dX2_passNumber_65 hP hS hl) (fun r3 s5 h => ?_)
          refine r_bipush (pc := 68) (v := 48) E dX2_passNumber_68 (by decide) ?_
          refine r_isub (pc := 70) E dX2_passNumber_70 ?_
          refine r_iadd (pc := 71) E dX2_passNumber_71 ?_
          refine r_put (pc := 72) (j := 4) E ok_4 kc_2 rfl q_165 rfl rfl rfl dX2_passNumber_72 (fun s6 es6 => ?_)
          have h := h s6 es6
          refine r_aload_n (pc := 75) E dX2_passNumber_75 rfl rfl ?_
          refine r_dup (pc := 76) E dX2_passNumber_76 rfl ?_
          refine r_get (pc := 77) (j := 3) E ok_4 kc_2 rfl q_164 (svI rfl) dX2_passNumber_77 ?_
          refine r_iconst (pc := 80) (v := 1) E dX2_passNumber_80 (by decide) ?_
          refine r_iadd (pc := 81) E dX2_passNumber_81 ?_
          refine r_put (pc := 82) (j := 3) E ok_4 kc_2 rfl q_164 rfl rfl rfl dX2_passNumber_82 (fun s7 es7 => ?_)
          have h := h s7 es7
          refine r_goto (pc := 85) (tgt := 5) E dX2_passNumber_85 (by decide) ?_
          exact r_forget (le_s le_0) (ih _  h)

def w_X2_passNumber (s0 : ST) (Q : ST → Prop) : Prop := ∀ s1 : ST, s1 = up s0 4 4 0 → (∃ n1 : Nat, w_X2_passNumber_L5 (fun (s8 : ST) => (((5 : Int32) < ((s8 4 3) - (s8 4 2)) → (∀ s9 : ST, s9 = up s8 4 1 4 → (Q s9))) ∧ (¬ ((5 : Int32) < ((s8 4 3) - (s8 4 2))) → (∀ s10 : ST, s10 = up s8 4 1 2 → (Q s10))))) Q n1 s1)
set_option maxRecDepth 100000 in
set_option maxHeartbeats 4000000 in
theorem c_X2_passNumber {l : Launch} (X : XT) (s0 : ST) (Q : ST → Prop) (h : w_X2_passNumber s0 Q) : MetV l yX2_passNumber (wS yX2_passNumber cX2_passNumber 1 none) rm_X2_passNumber X s0 [.ref (xa X 4)] Q := by
  refine metG (own := RX2) (k := 0) (lv0 := [some (.ref (xa X 4))]) (by decide) rfl rfl rfl ?_
  intro p e s m args below meth c E hr
  refine r_aload_n (pc := 0) E dX2_passNumber_0 rfl rfl ?_
  refine r_iconst (pc := 1) (v := 0) E dX2_passNumber_1 (by decide) ?_
  refine r_put (pc := 2) (j := 4) E ok_4 kc_2 rfl q_165 rfl rfl rfl dX2_passNumber_2 (fun s1 es1 => ?_)
  have h := h s1 es1
  obtain ⟨n1, h⟩ := h
  refine r_forget (le_s le_0) (t_X2_passNumber_L5 E hr ?_ n1 _  h)
  intro s8 h
  refine r_aload_n (pc := 88) E dX2_passNumber_88 rfl rfl ?_
  refine r_aload_n (pc := 89) E dX2_passNumber_89 rfl rfl ?_
  refine r_get (pc := 90) (j := 3) E ok_4 kc_2 rfl q_164 (svI rfl) dX2_passNumber_90 ?_
  refine r_aload_n (pc := 93) E dX2_passNumber_93 rfl rfl ?_
  refine r_get (pc := 94) (j := 2) E ok_4 kc_2 rfl q_163 (svI rfl) dX2_passNumber_94 ?_
  refine r_isub (pc := 97) E dX2_passNumber_97 ?_
  refine r_iconst (pc := 98) (v := 5) E dX2_passNumber_98 (by decide) ?_
  refine r_icmp_gt (pc := 99) (tgt := 106) E dX2_passNumber_99 (by decide) (fun c4 => ?_) (fun c4 => ?_)
  · have h := h.1 c4
    refine r_iconst (pc := 106) (v := 4) E dX2_passNumber_106 (by decide) ?_
    refine r_put (pc := 107) (j := 1) E ok_4 kc_2 rfl q_162 rfl rfl rfl dX2_passNumber_107 (fun s9 es9 => ?_)
    have h := h s9 es9
    exact r_vret (pc := 110) E hr dX2_passNumber_110 h
  · have h := h.2 c4
    refine r_iconst (pc := 102) (v := 2) E dX2_passNumber_102 (by decide) ?_
    refine r_goto (pc := 103) (tgt := 107) E dX2_passNumber_103 (by decide) ?_
    refine r_put (pc := 107) (j := 1) E ok_4 kc_2 rfl q_162 rfl rfl rfl dX2_passNumber_107 (fun s10 es10 => ?_)
    have h := h s10 es10
    exact r_vret (pc := 110) E hr dX2_passNumber_110 h

/-! ChairFront$Reader.advance -/
def rm_X2_advance : Room := { frames := 2, cells := 0, slots := 0, locals := 41 }
theorem ci_X2_advance : CI yX2_advance RX2 cX2_advance 2 none 0 := ⟨q_497, q_11, q_58, q_498, by decide +kernel⟩
def w_X2_advance (s0 : ST) (Q : ST → Prop) : Prop := w_X2_skipBlanks s0 (fun s1 => ∀ s2 : ST, s2 = up s1 4 2 (s1 4 3) → (w_X5_at s2 (s2 4 2) (fun r2 s3 => ((¬ r2 = (-1) → (w_X2_isLetter s3 r2 (fun r3 s4 => ((r3 = 0 → (w_X2_isFigure s4 r2 (fun r4 s5 => ((r4 = 0 → (∀ s6 : ST, s6 = up s5 4 3 ((s5 4 3) + 1) → (((¬ r2 = 59 → (∀ s7 : ST, s7 = up s6 4 1 4 → (Q s7))) ∧ (r2 = 59 → (∀ s8 : ST, s8 = up s6 4 1 3 → (Q s8))))))) ∧ (¬ (r4 = 0) → (w_X2_passNumber s5 (fun s9 => Q s9))))))) ∧ (¬ (r3 = 0) → (w_X2_passName s4 (fun s10 => Q s10))))))) ∧ (r2 = (-1) → (∀ s11 : ST, s11 = up s3 4 1 0 → (Q s11)))))))
set_option maxRecDepth 100000 in
set_option maxHeartbeats 4000000 in
theorem c_X2_advance {l : Launch} (X : XT) (s0 : ST) (Q : ST → Prop) (h : w_X2_advance s0 Q) : MetV l yX2_advance (wS yX2_advance cX2_advance 2 none) rm_X2_advance X s0 [.ref (xa X 4)] Q := by
  refine metG (own := RX2) (k := 1) (lv0 := [some (.ref (xa X 4)), none]) (by decide) rfl rfl rfl ?_
  intro p e s m args below meth c E hr
  refine r_aload_n (pc := 0) E dX2_advance_0 rfl rfl ?_
  refine afterV (pc := 1) E (fun H locs ls hP hS hl => runV (As := []) (rest := []) E (c_X2_skipBlanks X _  _  h) ok_4 kc_2.1 ci_X2_skipBlanks q_499 rfl rfl rfl rfl dX2_advance_1 hP hS hl) (fun s1 h => ?_)
  refine r_aload_n (pc := 4) E dX2_advance_4 rfl rfl ?_
  refine r_aload_n (pc := 5) E dX2_advance_5 rfl rfl ?_
  refine r_get (pc := 6) (j := 3) E ok_4 kc_2 rfl q_164 (svI rfl) dX2_advance_6 ?_
  refine r_put (pc := 9) (j := 2) E ok_4 kc_2 rfl q_163 rfl rfl rfl dX2_advance_9 (fun s2 es2 => ?_)
  have h := h s2 es2
  refine r_aload_n (pc := 12) E dX2_advance_12 rfl rfl ?_
  refine r_get (pc := 13) (j := 0) (v := .ref (xa X 5)) E ok_4 kc_2 rfl q_160 rfl dX2_advance_13 ?_
  refine r_aload_n (pc := 16) E dX2_advance_16 rfl rfl ?_
  refine r_get (pc := 17) (j := 2) E ok_4 kc_2 rfl q_163 (svI rfl) dX2_advance_17 ?_
  refine afterI (pc := 20) E (fun H locs ls hP hS hl => runV (As := [.int (s2 4 2)]) (rest := []) E (c_X5_at X _ _ _  h) ok_5 kc_5.1 ci_X5_at q_503 rfl rfl rfl rfl dX2_advance_20 hP hS hl) (fun r2 s3 h => ?_)
  refine r_istore_n (pc := 23) (lv' := [some (.ref (xa X 4)), some (.int r2)]) E dX2_advance_23 rfl rfl rfl rfl ?_
  refine r_iload_n (pc := 24) E dX2_advance_24 rfl rfl ?_
  refine r_iconst (pc := 25) (v := (-1)) E dX2_advance_25 (by decide) ?_
  refine r_icmp_ne (pc := 26) (tgt := 37) E dX2_advance_26 (by decide) (fun c1 => ?_) (fun c1 => ?_)
  · have h := h.1 c1
    refine r_iload_n (pc := 37) E dX2_advance_37 rfl rfl ?_
    refine afterI (pc := 38) E (fun H locs ls hP hS hl => runS (As := [.int r2]) (rest := []) E (c_X2_isLetter X _ _ _  h) cs_X2_isLetter q_510 rfl rfl rfl rfl dX2_advance_38 hP hS hl) (fun r3 s4 h => ?_)
    refine r_if_eq (pc := 41) (tgt := 51) E dX2_advance_41 (by decide) (fun c2 => ?_) (fun c2 => ?_)
    · have h := h.1 c2
      refine r_iload_n (pc := 51) E dX2_advance_51 rfl rfl ?_
      refine afterI (pc := 52) E (fun H locs ls hP hS hl => runS (As := [.int r2]) (rest := []) E (c_X2_isFigure X _ _ _  h) cs_X2_isFigure q_517 rfl rfl rfl rfl dX2_advance_52 hP hS hl) (fun r4 s5 h => ?_)
      refine r_if_eq (pc := 55) (tgt := 65) E dX2_advance_55 (by decide) (fun c3 => ?_) (fun c3 => ?_)
      · have h := h.1 c3
        refine r_aload_n (pc := 65) E dX2_advance_65 rfl rfl ?_
        refine r_dup (pc := 66) E dX2_advance_66 rfl ?_
        refine r_get (pc := 67) (j := 3) E ok_4 kc_2 rfl q_164 (svI rfl) dX2_advance_67 ?_
        refine r_iconst (pc := 70) (v := 1) E dX2_advance_70 (by decide) ?_
        refine r_iadd (pc := 71) E dX2_advance_71 ?_
        refine r_put (pc := 72) (j := 3) E ok_4 kc_2 rfl q_164 rfl rfl rfl dX2_advance_72 (fun s6 es6 => ?_)
        have h := h s6 es6
        refine r_aload_n (pc := 75) E dX2_advance_75 rfl rfl ?_
        refine r_iload_n (pc := 76) E dX2_advance_76 rfl rfl ?_
        refine r_bipush (pc := 77) (v := 59) E dX2_advance_77 (by decide) ?_
        refine r_icmp_ne (pc := 79) (tgt := 86) E dX2_advance_79 (by decide) (fun c4 => ?_) (fun c4 => ?_)
        · have h := h.1 c4
          refine r_iconst (pc := 86) (v := 4) E dX2_advance_86 (by decide) ?_
          refine r_put (pc := 87) (j := 1) E ok_4 kc_2 rfl q_162 rfl rfl rfl dX2_advance_87 (fun s7 es7 => ?_)
          have h := h s7 es7
          exact r_vret (pc := 90) E hr dX2_advance_90 h
        · have h := h.2 c4
          refine r_iconst (pc := 82) (v := 3) E dX2_advance_82 (by decide) ?_
          refine r_goto (pc := 83) (tgt := 87) E dX2_advance_83 (by decide) ?_
          refine r_put (pc := 87) (j := 1) E ok_4 kc_2 rfl q_162 rfl rfl rfl dX2_advance_87 (fun s8 es8 => ?_)
          have h := h s8 es8
          exact r_vret (pc := 90) E hr dX2_advance_90 h
      · have h := h.2 c3
        refine r_aload_n (pc := 58) E dX2_advance_58 rfl rfl ?_
        refine afterV (pc := 59) E (fun H locs ls hP hS hl => runV (As := []) (rest := []) E (c_X2_passNumber X _  _  h) ok_4 kc_2.1 ci_X2_passNumber q_520 rfl rfl rfl rfl dX2_advance_59 hP hS hl) (fun s9 h => ?_)
        refine r_goto (pc := 62) (tgt := 90) E dX2_advance_62 (by decide) ?_
        exact r_vret (pc := 90) E hr dX2_advance_90 h
    · have h := h.2 c2
      refine r_aload_n (pc := 44) E dX2_advance_44 rfl rfl ?_
      refine afterV (pc := 45) E (fun H locs ls hP hS hl => runV (As := []) (rest := []) E (c_X2_passName X _  _  h) ok_4 kc_2.1 ci_X2_passName q_513 rfl rfl rfl rfl dX2_advance_45 hP hS hl) (fun s10 h => ?_)
      refine r_goto (pc := 48) (tgt := 90) E dX2_advance_48 (by decide) ?_
      exact r_vret (pc := 90) E hr dX2_advance_90 h
  · have h := h.2 c1
    refine r_aload_n (pc := 29) E dX2_advance_29 rfl rfl ?_
    refine r_iconst (pc := 30) (v := 0) E dX2_advance_30 (by decide) ?_
    refine r_put (pc := 31) (j := 1) E ok_4 kc_2 rfl q_162 rfl rfl rfl dX2_advance_31 (fun s11 es11 => ?_)
    have h := h s11 es11
    refine r_goto (pc := 34) (tgt := 90) E dX2_advance_34 (by decide) ?_
    exact r_vret (pc := 90) E hr dX2_advance_90 h

/-! ChairFront$Reader.refuse -/
def rm_X2_refuse : Room := { frames := 0, cells := 0, slots := 0, locals := 0 }
theorem ci_X2_refuse : CI yX2_refuse RX2 cX2_refuse 2 (some .boolean) 1 := ⟨q_590, q_18, q_58, q_591, by decide +kernel⟩
def w_X2_refuse (s0 : ST) (a1 : Int32) (Q : Int32 → ST → Prop) : Prop := ∀ s1 : ST, s1 = up s0 4 7 a1 → (∀ s2 : ST, s2 = up s1 4 8 (s1 4 2) → (Q 0 s2))
set_option maxRecDepth 100000 in
set_option maxHeartbeats 4000000 in
theorem c_X2_refuse {l : Launch} (X : XT) (s0 : ST) (a1 : Int32) (Q : Int32 → ST → Prop) (h : w_X2_refuse s0 a1 Q) : MetI l yX2_refuse (wS yX2_refuse cX2_refuse 2 (some .boolean)) rm_X2_refuse X s0 [.ref (xa X 4), .int a1] Q := by
  refine metG (own := RX2) (k := 0) (lv0 := [some (.ref (xa X 4)), some (.int a1)]) (by decide) rfl rfl rfl ?_
  intro p e s m args below meth c E hr
  refine r_aload_n (pc := 0) E dX2_refuse_0 rfl rfl ?_
  refine r_iload_n (pc := 1) E dX2_refuse_1 rfl rfl ?_
  refine r_put (pc := 2) (j := 7) E ok_4 kc_2 rfl q_168 rfl rfl rfl dX2_refuse_2 (fun s1 es1 => ?_)
  have h := h s1 es1
  refine r_aload_n (pc := 5) E dX2_refuse_5 rfl rfl ?_
  refine r_aload_n (pc := 6) E dX2_refuse_6 rfl rfl ?_
  refine r_get (pc := 7) (j := 2) E ok_4 kc_2 rfl q_163 (svI rfl) dX2_refuse_7 ?_
  refine r_put (pc := 10) (j := 8) E ok_4 kc_2 rfl q_170 rfl rfl rfl dX2_refuse_10 (fun s2 es2 => ?_)
  have h := h s2 es2
  refine r_iconst (pc := 13) (v := 0) E dX2_refuse_13 (by decide) ?_
  exact r_zret (pc := 14) E hr dX2_refuse_14 rfl h

/-! ChairFront$Reader.standsNumber -/
def rm_X2_standsNumber : Room := { frames := 1, cells := 0, slots := 0, locals := 22 }
theorem ci_X2_standsNumber : CI yX2_standsNumber RX2 cX2_standsNumber 3 (some .boolean) 2 := ⟨q_603, q_21, q_58, q_604, by decide +kernel⟩
def w_X2_standsNumber (s0 : ST) (a1 : Int32) (a2 : Int32) (Q : Int32 → ST → Prop) : Prop := (((s0 4 1) = 2 → (w_X8_within s0 (s0 4 4) a1 a2 (fun r1 s1 => ((¬ r1 = 0 → (Q 1 s1)) ∧ (r1 = 0 → (w_X2_refuse s1 2 (fun r2 s2 => ((r2 = 0 → (Q 0 s2)) ∧ (¬ (r2 = 0) → (Q 1 s2)))))))))) ∧ (¬ ((s0 4 1) = 2) → (w_X2_refuse s0 1 (fun r3 s3 => narrow .boolean (.int r3) = .int r3 ∧ Q r3 s3))))
set_option maxRecDepth 100000 in
set_option maxHeartbeats 4000000 in
theorem c_X2_standsNumber {l : Launch} (X : XT) (s0 : ST) (a1 : Int32) (a2 : Int32) (Q : Int32 → ST → Prop) (h : w_X2_standsNumber s0 a1 a2 Q) : MetI l yX2_standsNumber (wS yX2_standsNumber cX2_standsNumber 3 (some .boolean)) rm_X2_standsNumber X s0 [.ref (xa X 4), .int a1, .int a2] Q := by
  refine metG (own := RX2) (k := 0) (lv0 := [some (.ref (xa X 4)), some (.int a1), some (.int a2)]) (by decide) rfl rfl rfl ?_
  intro p e s m args below meth c E hr
  refine r_aload_n (pc := 0) E dX2_standsNumber_0 rfl rfl ?_
  refine r_get (pc := 1) (j := 1) E ok_4 kc_2 rfl q_162 (svI rfl) dX2_standsNumber_1 ?_
  refine r_iconst (pc := 4) (v := 2) E dX2_standsNumber_4 (by decide) ?_
  refine r_icmp_eq (pc := 5) (tgt := 14) E dX2_standsNumber_5 (by decide) (fun c1 => ?_) (fun c1 => ?_)
  · have h := h.1 c1
    refine r_aload_n (pc := 14) E dX2_standsNumber_14 rfl rfl ?_
    refine r_get (pc := 15) (j := 4) E ok_4 kc_2 rfl q_165 (svI rfl) dX2_standsNumber_15 ?_
    refine r_iload_n (pc := 18) E dX2_standsNumber_18 rfl rfl ?_
    refine r_iload_n (pc := 19) E dX2_standsNumber_19 rfl rfl ?_
    refine afterI (pc := 20) E (fun H locs ls hP hS hl => runN (As := [.int (s0 4 4), .int a1, .int a2]) (rest := []) E (c_X8_within X _ _ _ _ _  h) cs_X8_within E.kb.2.1 rfl rfl rfl rfl dX2_standsNumber_20 hP hS hl) (fun r1 s1 h => ?_)
    refine r_if_ne (pc := 23) (tgt := 34) E dX2_standsNumber_23 (by decide) (fun c2 => ?_) (fun c2 => ?_)
    · have h := h.1 c2
      refine r_iconst (pc := 34) (v := 1) E dX2_standsNumber_34 (by decide) ?_
      refine r_goto (pc := 35) (tgt := 39) E dX2_standsNumber_35 (by decide) ?_
      exact r_zret (pc := 39) E hr dX2_standsNumber_39 rfl h
    · have h := h.2 c2
      refine r_aload_n (pc := 26) E dX2_standsNumber_26 rfl rfl ?_
      refine r_iconst (pc := 27) (v := 2) E dX2_standsNumber_27 (by decide) ?_
      refine afterI (pc := 28) E (fun H locs ls hP hS hl => runV (As := [.int 2]) (rest := []) E (c_X2_refuse X _ _ _  h) ok_4 kc_2.1 ci_X2_refuse q_588 rfl rfl rfl rfl dX2_standsNumber_28 hP hS hl) (fun r2 s2 h => ?_)
      refine r_if_eq (pc := 31) (tgt := 38) E dX2_standsNumber_31 (by decide) (fun c3 => ?_) (fun c3 => ?_)
      · have h := h.1 c3
        refine r_iconst (pc := 38) (v := 0) E dX2_standsNumber_38 (by decide) ?_
        exact r_zret (pc := 39) E hr dX2_standsNumber_39 rfl h
      · have h := h.2 c3
        refine r_iconst (pc := 34) (v := 1) E dX2_standsNumber_34 (by decide) ?_
        refine r_goto (pc := 35) (tgt := 39) E dX2_standsNumber_35 (by decide) ?_
        exact r_zret (pc := 39) E hr dX2_standsNumber_39 rfl h
  · have h := h.2 c1
    refine r_aload_n (pc := 8) E dX2_standsNumber_8 rfl rfl ?_
    refine r_iconst (pc := 9) (v := 1) E dX2_standsNumber_9 (by decide) ?_
    refine afterI (pc := 10) E (fun H locs ls hP hS hl => runV (As := [.int 1]) (rest := []) E (c_X2_refuse X _ _ _  h) ok_4 kc_2.1 ci_X2_refuse q_588 rfl rfl rfl rfl dX2_standsNumber_10 hP hS hl) (fun r3 s3 h => ?_)
    exact r_zret (pc := 13) E hr dX2_standsNumber_13 h.1 h.2

/-! ChairFront$Rules.addRain -/
def rm_X3_addRain : Room := { frames := 0, cells := 0, slots := 0, locals := 0 }
theorem ci_X3_addRain : CI yX3_addRain RX3 cX3_addRain 3 none 2 := ⟨q_608, q_609, q_60, q_610, by decide +kernel⟩
def w_X3_addRain (s0 : ST) (k0 : Nat) (a1 : Int32) (a2 : Int32) (Q : ST → Prop) : Prop := vp_in (s0 k0 2) 5 ∧ (∀ s1 : ST, s1 = up s0 (4 * k0 - 18 + 0 - 1) (s0 k0 2).toNatClampNeg a1 → (vp_in (s1 k0 2) 5 ∧ (∀ s2 : ST, s2 = up s1 (4 * k0 - 18 + 1 - 1) (s1 k0 2).toNatClampNeg a2 → (∀ s3 : ST, s3 = up s2 k0 2 ((s2 k0 2) + 1) → (Q s3)))))
set_option maxRecDepth 100000 in
set_option maxHeartbeats 4000000 in
theorem c_X3_addRain {l : Launch} (X : XT) (s0 : ST) (k0 : Nat) (a1 : Int32) (a2 : Int32) (Q : ST → Prop) (hk0 : okc 3 k0) (h : w_X3_addRain s0 k0 a1 a2 Q) : MetV l yX3_addRain (wS yX3_addRain cX3_addRain 3 none) rm_X3_addRain X s0 [.ref (xa X k0), .int a1, .int a2] Q := by
  refine metG (own := RX3) (k := 0) (lv0 := [some (.ref (xa X k0)), some (.int a1), some (.int a2)]) (by decide) rfl rfl rfl ?_
  intro p e s m args below meth c E hr
  refine r_aload_n (pc := 0) E dX3_addRain_0 rfl rfl ?_
  refine r_get (pc := 1) (j := 4) E hk0 kc_3 rfl q_206 (svR hk0 0 rfl) dX3_addRain_1 ?_
  refine r_aload_n (pc := 4) E dX3_addRain_4 rfl rfl ?_
  refine r_get (pc := 5) (j := 2) E hk0 kc_3 rfl q_202 (svI (r0R hk0 rfl)) dX3_addRain_5 ?_
  refine r_iload_n (pc := 8) E dX3_addRain_8 rfl rfl ?_
  refine r_iast (pc := 9) (n := 5) E (okRA hk0 0 rfl) (lnRA hk0 0 rfl) h.1 dX3_addRain_9 (fun s1 es1 => ?_)
  have h := h.2 s1 es1
  refine r_aload_n (pc := 10) E dX3_addRain_10 rfl rfl ?_
  refine r_get (pc := 11) (j := 5) E hk0 kc_3 rfl q_207 (svR hk0 1 rfl) dX3_addRain_11 ?_
  refine r_aload_n (pc := 14) E dX3_addRain_14 rfl rfl ?_
  refine r_get (pc := 15) (j := 2) E hk0 kc_3 rfl q_202 (svI (r0R hk0 rfl)) dX3_addRain_15 ?_
  refine r_iload_n (pc := 18) E dX3_addRain_18 rfl rfl ?_
  refine r_iast (pc := 19) (n := 5) E (okRA hk0 1 rfl) (lnRA hk0 1 rfl) h.1 dX3_addRain_19 (fun s2 es2 => ?_)
  have h := h.2 s2 es2
  refine r_aload_n (pc := 20) E dX3_addRain_20 rfl rfl ?_
  refine r_dup (pc := 21) E dX3_addRain_21 rfl ?_
  refine r_get (pc := 22) (j := 2) E hk0 kc_3 rfl q_202 (svI (r0R hk0 rfl)) dX3_addRain_22 ?_
  refine r_iconst (pc := 25) (v := 1) E dX3_addRain_25 (by decide) ?_
  refine r_iadd (pc := 26) E dX3_addRain_26 ?_
  refine r_put (pc := 27) (j := 2) E hk0 kc_3 rfl q_202 (r0R hk0 rfl) rfl rfl dX3_addRain_27 (fun s3 es3 => ?_)
  have h := h s3 es3
  exact r_vret (pc := 30) E hr dX3_addRain_30 h

/-! ChairFront$Rules.leastNextEnd -/
def rm_X3_leastNextEnd : Room := { frames := 0, cells := 0, slots := 0, locals := 0 }
theorem ci_X3_leastNextEnd : CI yX3_leastNextEnd RX3 cX3_leastNextEnd 1 (some .int) 0 := ⟨q_617, q_618, q_60, q_619, by decide +kernel⟩
def w_X3_leastNextEnd (s0 : ST) (k0 : Nat) (Q : Int32 → ST → Prop) : Prop := ((¬ (s0 k0 3) = 0 → (vp_in ((s0 k0 3) - 1) 5 ∧ (Q ((s0 (4 * k0 - 18 + 2 - 1) ((s0 k0 3) - 1).toNatClampNeg) + 1) s0))) ∧ ((s0 k0 3) = 0 → (Q 0 s0)))
set_option maxRecDepth 100000 in
set_option maxHeartbeats 4000000 in
theorem c_X3_leastNextEnd {l : Launch} (X : XT) (s0 : ST) (k0 : Nat) (Q : Int32 → ST → Prop) (hk0 : okc 3 k0) (h : w_X3_leastNextEnd s0 k0 Q) : MetI l yX3_leastNextEnd (wS yX3_leastNextEnd cX3_leastNextEnd 1 (some .int)) rm_X3_leastNextEnd X s0 [.ref (xa X k0)] Q := by
  refine metG (own := RX3) (k := 0) (lv0 := [some (.ref (xa X k0))]) (by decide) rfl rfl rfl ?_
  intro p e s m args below meth c E hr
  refine r_aload_n (pc := 0) E dX3_leastNextEnd_0 rfl rfl ?_
  refine r_get (pc := 1) (j := 3) E hk0 kc_3 rfl q_204 (svI (r0R hk0 rfl)) dX3_leastNextEnd_1 ?_
  refine r_if_ne (pc := 4) (tgt := 11) E dX3_leastNextEnd_4 (by decide) (fun c1 => ?_) (fun c1 => ?_)
  · have h := h.1 c1
    refine r_aload_n (pc := 11) E dX3_leastNextEnd_11 rfl rfl ?_
    refine r_get (pc := 12) (j := 6) E hk0 kc_3 rfl q_208 (svR hk0 2 rfl) dX3_leastNextEnd_12 ?_
    refine r_aload_n (pc := 15) E dX3_leastNextEnd_15 rfl rfl ?_
    refine r_get (pc := 16) (j := 3) E hk0 kc_3 rfl q_204 (svI (r0R hk0 rfl)) dX3_leastNextEnd_16 ?_
    refine r_iconst (pc := 19) (v := 1) E dX3_leastNextEnd_19 (by decide) ?_
    refine r_isub (pc := 20) E dX3_leastNextEnd_20 ?_
    refine r_iald (pc := 21) (n := 5) E (okRA hk0 2 rfl) (lnRA hk0 2 rfl) h.1 dX3_leastNextEnd_21 ?_
    have h := h.2
    refine r_iconst (pc := 22) (v := 1) E dX3_leastNextEnd_22 (by decide) ?_
    refine r_iadd (pc := 23) E dX3_leastNextEnd_23 ?_
    exact r_iret (pc := 24) E hr dX3_leastNextEnd_24 h
  · have h := h.2 c1
    refine r_iconst (pc := 7) (v := 0) E dX3_leastNextEnd_7 (by decide) ?_
    refine r_goto (pc := 8) (tgt := 24) E dX3_leastNextEnd_8 (by decide) ?_
    exact r_iret (pc := 24) E hr dX3_leastNextEnd_24 h

