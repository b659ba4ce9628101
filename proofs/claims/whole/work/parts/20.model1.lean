/-! ChairFrontModel.in -/
def rm_X9_in : Room := { frames := 0, cells := 0, slots := 0, locals := 0 }
theorem cs_X9_in : CS yX9_in cX9_in 6 (some .boolean) 3 := ⟨q_948, q_65, q_949, by decide +kernel⟩
def w_X9_in (s0 : ST) (a0 : Int64) (a2 : Int64) (a4 : Int64) (Q : Int32 → ST → Prop) : Prop := (((lg_cmp a0 a2) < 0 → (Q 0 s0)) ∧ (¬ ((lg_cmp a0 a2) < 0) → (((0 < (lg_cmp a0 a4) → (Q 0 s0)) ∧ (¬ (0 < (lg_cmp a0 a4)) → (Q 1 s0))))))
set_option maxRecDepth 100000 in
set_option maxHeartbeats 4000000 in
theorem c_X9_in {l : Launch} (X : XT) (s0 : ST) (a0 : Int64) (a2 : Int64) (a4 : Int64) (Q : Int32 → ST → Prop) (h : w_X9_in s0 a0 a2 a4 Q) : MetI l yX9_in (wS yX9_in cX9_in 6 (some .boolean)) rm_X9_in X s0 [.long a0, .long a2, .long a4] Q := by
  refine metG (own := RX9) (k := 0) (lv0 := [some (.long a0), none, some (.long a2), none, some (.long a4), none]) (by decide) rfl rfl rfl ?_
  intro p e s m args below meth c E hr
  refine r_lload_n (pc := 0) E dX9_in_0 rfl rfl ?_
  refine r_lload_n (pc := 1) E dX9_in_1 rfl rfl ?_
  refine r_lcmp (pc := 2) E dX9_in_2 ?_
  refine r_if_lt (pc := 3) (tgt := 17) E dX9_in_3 (by decide) (fun c1 => ?_) (fun c1 => ?_)
  · have h := h.1 c1
    refine r_iconst (pc := 17) (v := 0) E dX9_in_17 (by decide) ?_
    exact r_zret (pc := 18) E hr dX9_in_18 rfl h
  · have h := h.2 c1
    refine r_lload_n (pc := 6) E dX9_in_6 rfl rfl ?_
    refine r_lload (pc := 7) E dX9_in_7 rfl ?_
    refine r_lcmp (pc := 9) E dX9_in_9 ?_
    refine r_if_gt (pc := 10) (tgt := 17) E dX9_in_10 (by decide) (fun c2 => ?_) (fun c2 => ?_)
    · have h := h.1 c2
      refine r_iconst (pc := 17) (v := 0) E dX9_in_17 (by decide) ?_
      exact r_zret (pc := 18) E hr dX9_in_18 rfl h
    · have h := h.2 c2
      refine r_iconst (pc := 13) (v := 1) E dX9_in_13 (by decide) ?_
      refine r_goto (pc := 14) (tgt := 18) E dX9_in_14 (by decide) ?_
      exact r_zret (pc := 18) E hr dX9_in_18 rfl h

/-! ChairFrontModel.isStretch -/
def rm_X9_isStretch : Room := { frames := 1, cells := 0, slots := 0, locals := 25 }
theorem ci_X9_isStretch : CI yX9_isStretch RX9 cX9_isStretch 2 (some .boolean) 1 := ⟨q_960, q_36, q_65, q_961, by decide +kernel⟩
def w_X9_isStretch (s0 : ST) (a1 : Int32) (Q : Int32 → ST → Prop) : Prop := w_X9_in s0 ((a1 : Int32).toInt64) 0 ((((s0 63 10) - 1) : Int32).toInt64) (fun r1 s1 => narrow .boolean (.int r1) = .int r1 ∧ Q r1 s1)
set_option maxRecDepth 100000 in
set_option maxHeartbeats 4000000 in
theorem c_X9_isStretch {l : Launch} (X : XT) (s0 : ST) (a1 : Int32) (Q : Int32 → ST → Prop) (h : w_X9_isStretch s0 a1 Q) : MetI l yX9_isStretch (wS yX9_isStretch cX9_isStretch 2 (some .boolean)) rm_X9_isStretch X s0 [.ref (xa X 63), .int a1] Q := by
  refine metG (own := RX9) (k := 0) (lv0 := [some (.ref (xa X 63)), some (.int a1)]) (by decide) rfl rfl rfl ?_
  intro p e s m args below meth c E hr
  refine r_iload_n (pc := 0) E dX9_isStretch_0 rfl rfl ?_
  refine r_i2l (pc := 1) E dX9_isStretch_1 ?_
  refine r_lconst (pc := 2) (v := 0) E dX9_isStretch_2 rfl ?_
  refine r_aload_n (pc := 3) E dX9_isStretch_3 rfl rfl ?_
  refine r_get (pc := 4) (j := 10) E ok_63 kc_9 rfl q_786 (svI rfl) dX9_isStretch_4 ?_
  refine r_iconst (pc := 7) (v := 1) E dX9_isStretch_7 (by decide) ?_
  refine r_isub (pc := 8) E dX9_isStretch_8 ?_
  refine r_i2l (pc := 9) E dX9_isStretch_9 ?_
  refine afterI (pc := 10) E (fun H locs ls hP hS hl => runS (As := [.long ((a1 : Int32).toInt64), .long 0, .long ((((s0 63 10) - 1) : Int32).toInt64)]) (rest := []) E (c_X9_in X _ _ _ _ _  h) cs_X9_in q_947 rfl rfl rfl rfl dX9_isStretch_10 hP hS hl) (fun r1 s1 h => ?_)
  exact r_zret (pc := 13) E hr dX9_isStretch_13 h.1 h.2

/-! ChairFrontModel.stretch -/
def rm_X9_stretch : Room := { frames := 1, cells := 0, slots := 0, locals := 25 }
theorem ci_X9_stretch : CI yX9_stretch RX9 cX9_stretch 3 (some .int) 2 := ⟨q_943, q_944, q_65, q_945, by decide +kernel⟩
def w_X9_stretch (s0 : ST) (a1 : Int32) (a2 : Int32) (Q : Int32 → ST → Prop) : Prop := ∀ s1 : ST, s1 = up s0 63 0 0 → (w_X9_in s1 ((a1 : Int32).toInt64) 0 500 (fun r1 s2 => ((r1 = 0 → (Q (-1000001) s2)) ∧ (¬ (r1 = 0) → (w_X9_in s2 ((a2 : Int32).toInt64) 0 3 (fun r2 s3 => ((¬ r2 = 0 → (((¬ (s3 63 10) = 10 → (vp_in (s3 63 10) 10 ∧ (∀ s4 : ST, s4 = up s3 64 (s3 63 10).toNatClampNeg a1 → (vp_in (s4 63 10) 10 ∧ (∀ s5 : ST, s5 = up s4 65 (s4 63 10).toNatClampNeg a2 → (∀ s6 : ST, s6 = up s5 63 10 ((s5 63 10) + 1) → (Q ((s6 63 10) - 1) s6))))))) ∧ ((s3 63 10) = 10 → (Q (-1000003) s3))))) ∧ (r2 = 0 → (Q (-1000001) s3)))))))))
set_option maxRecDepth 100000 in
set_option maxHeartbeats 4000000 in
theorem c_X9_stretch {l : Launch} (X : XT) (s0 : ST) (a1 : Int32) (a2 : Int32) (Q : Int32 → ST → Prop) (h : w_X9_stretch s0 a1 a2 Q) : MetI l yX9_stretch (wS yX9_stretch cX9_stretch 3 (some .int)) rm_X9_stretch X s0 [.ref (xa X 63), .int a1, .int a2] Q := by
  refine metG (own := RX9) (k := 0) (lv0 := [some (.ref (xa X 63)), some (.int a1), some (.int a2)]) (by decide) rfl rfl rfl ?_
  intro p e s m args below meth c E hr
  refine r_aload_n (pc := 0) E dX9_stretch_0 rfl rfl ?_
  refine r_iconst (pc := 1) (v := 0) E dX9_stretch_1 (by decide) ?_
  refine r_put (pc := 2) (j := 0) E ok_63 kc_9 rfl q_776 rfl rfl rfl dX9_stretch_2 (fun s1 es1 => ?_)
  have h := h s1 es1
  refine r_iload_n (pc := 5) E dX9_stretch_5 rfl rfl ?_
  refine r_i2l (pc := 6) E dX9_stretch_6 ?_
  refine r_lconst (pc := 7) (v := 0) E dX9_stretch_7 rfl ?_
  refine r_ldc2 (pc := 8) (v := 500) E q_946 dX9_stretch_8 ?_
  refine afterI (pc := 11) E (fun H locs ls hP hS hl => runS (As := [.long ((a1 : Int32).toInt64), .long 0, .long 500]) (rest := []) E (c_X9_in X _ _ _ _ _  h) cs_X9_in q_947 rfl rfl rfl rfl dX9_stretch_11 hP hS hl) (fun r1 s2 h => ?_)
  refine r_if_eq (pc := 14) (tgt := 29) E dX9_stretch_14 (by decide) (fun c1 => ?_) (fun c1 => ?_)
  · have h := h.1 c1
    refine r_ldc (pc := 29) (v := (-1000001)) E q_951 dX9_stretch_29 ?_
    exact r_iret (pc := 31) E hr dX9_stretch_31 h
  · have h := h.2 c1
    refine r_iload_n (pc := 17) E dX9_stretch_17 rfl rfl ?_
    refine r_i2l (pc := 18) E dX9_stretch_18 ?_
    refine r_lconst (pc := 19) (v := 0) E dX9_stretch_19 rfl ?_
    refine r_ldc2 (pc := 20) (v := 3) E q_950 dX9_stretch_20 ?_
    refine afterI (pc := 23) E (fun H locs ls hP hS hl => runS (As := [.long ((a2 : Int32).toInt64), .long 0, .long 3]) (rest := []) E (c_X9_in X _ _ _ _ _  h) cs_X9_in q_947 rfl rfl rfl rfl dX9_stretch_23 hP hS hl) (fun r2 s3 h => ?_)
    refine r_if_ne (pc := 26) (tgt := 32) E dX9_stretch_26 (by decide) (fun c2 => ?_) (fun c2 => ?_)
    · have h := h.1 c2
      refine r_aload_n (pc := 32) E dX9_stretch_32 rfl rfl ?_
      refine r_get (pc := 33) (j := 10) E ok_63 kc_9 rfl q_786 (svI rfl) dX9_stretch_33 ?_
      refine r_bipush (pc := 36) (v := 10) E dX9_stretch_36 (by decide) ?_
      refine r_icmp_ne (pc := 38) (tgt := 44) E dX9_stretch_38 (by decide) (fun c3 => ?_) (fun c3 => ?_)
      · have h := h.1 c3
        refine r_aload_n (pc := 44) E dX9_stretch_44 rfl rfl ?_
        refine r_get (pc := 45) (j := 11) (v := .ref (xa X 64)) E ok_63 kc_9 rfl q_787 rfl dX9_stretch_45 ?_
        refine r_aload_n (pc := 48) E dX9_stretch_48 rfl rfl ?_
        refine r_get (pc := 49) (j := 10) E ok_63 kc_9 rfl q_786 (svI rfl) dX9_stretch_49 ?_
        refine r_iload_n (pc := 52) E dX9_stretch_52 rfl rfl ?_
        refine r_iast (pc := 53) (n := 10) E ok_64 rfl h.1 dX9_stretch_53 (fun s4 es4 => ?_)
        have h := h.2 s4 es4
        refine r_aload_n (pc := 54) E dX9_stretch_54 rfl rfl ?_
        refine r_get (pc := 55) (j := 12) (v := .ref (xa X 65)) E ok_63 kc_9 rfl q_788 rfl dX9_stretch_55 ?_
        refine r_aload_n (pc := 58) E dX9_stretch_58 rfl rfl ?_
        refine r_get (pc := 59) (j := 10) E ok_63 kc_9 rfl q_786 (svI rfl) dX9_stretch_59 ?_
        refine r_iload_n (pc := 62) E dX9_stretch_62 rfl rfl ?_
        refine r_iast (pc := 63) (n := 10) E ok_65 rfl h.1 dX9_stretch_63 (fun s5 es5 => ?_)
        have h := h.2 s5 es5
        refine r_aload_n (pc := 64) E dX9_stretch_64 rfl rfl ?_
        refine r_dup (pc := 65) E dX9_stretch_65 rfl ?_
        refine r_get (pc := 66) (j := 10) E ok_63 kc_9 rfl q_786 (svI rfl) dX9_stretch_66 ?_
        refine r_iconst (pc := 69) (v := 1) E dX9_stretch_69 (by decide) ?_
        refine r_iadd (pc := 70) E dX9_stretch_70 ?_
        refine r_put (pc := 71) (j := 10) E ok_63 kc_9 rfl q_786 rfl rfl rfl dX9_stretch_71 (fun s6 es6 => ?_)
        have h := h s6 es6
        refine r_aload_n (pc := 74) E dX9_stretch_74 rfl rfl ?_
        refine r_get (pc := 75) (j := 10) E ok_63 kc_9 rfl q_786 (svI rfl) dX9_stretch_75 ?_
        refine r_iconst (pc := 78) (v := 1) E dX9_stretch_78 (by decide) ?_
        refine r_isub (pc := 79) E dX9_stretch_79 ?_
        exact r_iret (pc := 80) E hr dX9_stretch_80 h
      · have h := h.2 c3
        refine r_ldc (pc := 41) (v := (-1000003)) E q_952 dX9_stretch_41 ?_
        exact r_iret (pc := 43) E hr dX9_stretch_43 h
    · have h := h.2 c2
      refine r_ldc (pc := 29) (v := (-1000001)) E q_951 dX9_stretch_29 ?_
      exact r_iret (pc := 31) E hr dX9_stretch_31 h

/-! ChairFrontModel.standing -/
def rm_X9_standing : Room := { frames := 0, cells := 0, slots := 0, locals := 0 }
theorem ci_X9_standing : CI yX9_standing RX9 cX9_standing 2 (some .int) 1 := ⟨q_966, q_37, q_65, q_967, by decide +kernel⟩
def w_X9_standing (s0 : ST) (a1 : Int32) (Q : Int32 → ST → Prop) : Prop := vp_in a1 10 ∧ (vp_in a1 10 ∧ (Q ((s0 66 a1.toNatClampNeg) + (s0 67 a1.toNatClampNeg)) s0))
set_option maxRecDepth 100000 in
set_option maxHeartbeats 4000000 in
theorem c_X9_standing {l : Launch} (X : XT) (s0 : ST) (a1 : Int32) (Q : Int32 → ST → Prop) (h : w_X9_standing s0 a1 Q) : MetI l yX9_standing (wS yX9_standing cX9_standing 2 (some .int)) rm_X9_standing X s0 [.ref (xa X 63), .int a1] Q := by
  refine metG (own := RX9) (k := 0) (lv0 := [some (.ref (xa X 63)), some (.int a1)]) (by decide) rfl rfl rfl ?_
  intro p e s m args below meth c E hr
  refine r_aload_n (pc := 0) E dX9_standing_0 rfl rfl ?_
  refine r_get (pc := 1) (j := 13) (v := .ref (xa X 66)) E ok_63 kc_9 rfl q_789 rfl dX9_standing_1 ?_
  refine r_iload_n (pc := 4) E dX9_standing_4 rfl rfl ?_
  refine r_iald (pc := 5) (n := 10) E ok_66 rfl h.1 dX9_standing_5 ?_
  have h := h.2
  refine r_aload_n (pc := 6) E dX9_standing_6 rfl rfl ?_
  refine r_get (pc := 7) (j := 14) (v := .ref (xa X 67)) E ok_63 kc_9 rfl q_790 rfl dX9_standing_7 ?_
  refine r_iload_n (pc := 10) E dX9_standing_10 rfl rfl ?_
  refine r_iald (pc := 11) (n := 10) E ok_67 rfl h.1 dX9_standing_11 ?_
  have h := h.2
  refine r_iadd (pc := 12) E dX9_standing_12 ?_
  exact r_iret (pc := 13) E hr dX9_standing_13 h

/-! ChairFrontModel.carry -/
def rm_X9_carry : Room := { frames := 2, cells := 0, slots := 0, locals := 46 }
theorem ci_X9_carry : CI yX9_carry RX9 cX9_carry 4 (some .int) 3 := ⟨q_954, q_955, q_65, q_956, by decide +kernel⟩
def w_X9_carry_J108 (Q : Int32 → ST → Prop) (s0 : ST) (v2 : Int32) (v3 : Int32) : Prop := ((¬ v2 = (-1000000) → (vp_in v2 10 ∧ (vp_in v2 10 ∧ (∀ s4 : ST, s4 = up s0 66 v2.toNatClampNeg ((s0 66 v2.toNatClampNeg) + v3) → (w_X9_standing s4 v2 (fun r2 s5 => Q r2 s5)))))) ∧ (v2 = (-1000000) → (∀ s6 : ST, s6 = up s0 63 1 ((s0 63 1) + v3) → (Q (s6 63 1) s6))))
set_option maxRecDepth 100000 in
set_option maxHeartbeats 4000000 in
theorem t_X9_carry_J108 {p : Program} {l : Launch} {e : Env} {s : State} {m : MethodId} {args : Array Value} {below : List Frame} {meth : Method} {c : Code} {X : XT} (E : Ev p rm_X9_carry s m args meth c X (xA X) 4 0 0 cX9_carry RX9) (hr : meth.sig.returnType = (some .int)) {Q : Int32 → ST → Prop} (s0 : ST) (v2 : Int32) (v3 : Int32) (h : w_X9_carry_J108 Q s0 v2 v3) : G p l e rm_X9_carry s m args below meth c X (xA X) 4 0 0 (MQ below (va_Qi Q (Bw X) (xA X)) args s 0 0 (xA X)) s0 108 [some (.ref (xa X 63)), none, some (.int v2), some (.int v3)] [] := by
  refine r_iload_n (pc := 108) E dX9_carry_108 rfl rfl ?_
  refine r_ldc (pc := 109) (v := (-1000000)) E q_957 dX9_carry_109 ?_
  refine r_icmp_ne (pc := 111) (tgt := 129) E dX9_carry_111 (by decide) (fun c8 => ?_) (fun c8 => ?_)
  · have h := h.1 c8
    refine r_aload_n (pc := 129) E dX9_carry_129 rfl rfl ?_
    refine r_get (pc := 130) (j := 13) (v := .ref (xa X 66)) E ok_63 kc_9 rfl q_789 rfl dX9_carry_130 ?_
    refine r_iload_n (pc := 133) E dX9_carry_133 rfl rfl ?_
    refine r_dup2 (pc := 134) E dX9_carry_134 rfl rfl ?_
    refine r_iald (pc := 135) (n := 10) E ok_66 rfl h.1 dX9_carry_135 ?_
    have h := h.2
    refine r_iload_n (pc := 136) E dX9_carry_136 rfl rfl ?_
    refine r_iadd (pc := 137) E dX9_carry_137 ?_
    refine r_iast (pc := 138) (n := 10) E ok_66 rfl h.1 dX9_carry_138 (fun s4 es4 => ?_)
    have h := h.2 s4 es4
    refine r_aload_n (pc := 139) E dX9_carry_139 rfl rfl ?_
    refine r_iload_n (pc := 140) E dX9_carry_140 rfl rfl ?_
    refine afterI (pc := 141) E (fun H locs ls hP hS hl => runV (As := [.int v2]) (rest := []) E (c_X9_standing X _ _ _  h) ok_63 kc_9.1 ci_X9_standing q_964 rfl rfl rfl rfl dX9_carry_141 hP hS hl) (fun r2 s5 h => ?_)
    exact r_iret (pc := 144) E hr dX9_carry_144 h
  · have h := h.2 c8
    refine r_aload_n (pc := 114) E dX9_carry_114 rfl rfl ?_
    refine r_dup (pc := 115) E dX9_carry_115 rfl ?_
    refine r_get (pc := 116) (j := 1) E ok_63 kc_9 rfl q_777 (svI rfl) dX9_carry_116 ?_
    refine r_iload_n (pc := 119) E dX9_carry_119 rfl rfl ?_
    refine r_iadd (pc := 120) E dX9_carry_120 ?_
    refine r_put (pc := 121) (j := 1) E ok_63 kc_9 rfl q_777 rfl rfl rfl dX9_carry_121 (fun s6 es6 => ?_)
    have h := h s6 es6
    refine r_aload_n (pc := 124) E dX9_carry_124 rfl rfl ?_
    refine r_get (pc := 125) (j := 1) E ok_63 kc_9 rfl q_777 (svI rfl) dX9_carry_125 ?_
    exact r_iret (pc := 128) E hr dX9_carry_128 h

def w_X9_carry_J72 (Q : Int32 → ST → Prop) (s0 : ST) (v1 : Int32) (v2 : Int32) (v3 : Int32) (t0 : Int32) : Prop := ((v3 ≤ t0 → (((¬ v1 = (-1000000) → (vp_in v1 10 ∧ (vp_in v1 10 ∧ (∀ s3 : ST, s3 = up s0 66 v1.toNatClampNeg ((s0 66 v1.toNatClampNeg) - v3) → (w_X9_carry_J108 Q s3 v2 v3))))) ∧ (v1 = (-1000000) → (∀ s7 : ST, s7 = up s0 63 1 ((s0 63 1) - v3) → (w_X9_carry_J108 Q s7 v2 v3)))))) ∧ (¬ (v3 ≤ t0) → (Q (-1000002) s0)))
set_option maxRecDepth 100000 in
set_option maxHeartbeats 4000000 in
theorem t_X9_carry_J72 {p : Program} {l : Launch} {e : Env} {s : State} {m : MethodId} {args : Array Value} {below : List Frame} {meth : Method} {c : Code} {X : XT} (E : Ev p rm_X9_carry s m args meth c X (xA X) 4 0 0 cX9_carry RX9) (hr : meth.sig.returnType = (some .int)) {Q : Int32 → ST → Prop} (s0 : ST) (v1 : Int32) (v2 : Int32) (v3 : Int32) (t0 : Int32) (h : w_X9_carry_J72 Q s0 v1 v2 v3 t0) : G p l e rm_X9_carry s m args below meth c X (xA X) 4 0 0 (MQ below (va_Qi Q (Bw X) (xA X)) args s 0 0 (xA X)) s0 72 [some (.ref (xa X 63)), some (.int v1), some (.int v2), some (.int v3)] [.int t0] := by
  refine r_iload_n (pc := 72) E dX9_carry_72 rfl rfl ?_
  refine r_icmp_ge (pc := 73) (tgt := 79) E dX9_carry_73 (by decide) (fun c6 => ?_) (fun c6 => ?_)
  · have h := h.1 c6
    refine r_iload_n (pc := 79) E dX9_carry_79 rfl rfl ?_
    refine r_ldc (pc := 80) (v := (-1000000)) E q_957 dX9_carry_80 ?_
    refine r_icmp_ne (pc := 82) (tgt := 98) E dX9_carry_82 (by decide) (fun c7 => ?_) (fun c7 => ?_)
    · have h := h.1 c7
      refine r_aload_n (pc := 98) E dX9_carry_98 rfl rfl ?_
      refine r_get (pc := 99) (j := 13) (v := .ref (xa X 66)) E ok_63 kc_9 rfl q_789 rfl dX9_carry_99 ?_
      refine r_iload_n (pc := 102) E dX9_carry_102 rfl rfl ?_
      refine r_dup2 (pc := 103) E dX9_carry_103 rfl rfl ?_
      refine r_iald (pc := 104) (n := 10) E ok_66 rfl h.1 dX9_carry_104 ?_
      have h := h.2
      refine r_iload_n (pc := 105) E dX9_carry_105 rfl rfl ?_
      refine r_isub (pc := 106) E dX9_carry_106 ?_
      refine r_iast (pc := 107) (n := 10) E ok_66 rfl h.1 dX9_carry_107 (fun s3 es3 => ?_)
      have h := h.2 s3 es3
      exact r_forget (le_s (le_n (le_s (le_s le_0)))) (t_X9_carry_J108 E hr _ _ _ h)
    · have h := h.2 c7
      refine r_aload_n (pc := 85) E dX9_carry_85 rfl rfl ?_
      refine r_dup (pc := 86) E dX9_carry_86 rfl ?_
      refine r_get (pc := 87) (j := 1) E ok_63 kc_9 rfl q_777 (svI rfl) dX9_carry_87 ?_
      refine r_iload_n (pc := 90) E dX9_carry_90 rfl rfl ?_
      refine r_isub (pc := 91) E dX9_carry_91 ?_
      refine r_put (pc := 92) (j := 1) E ok_63 kc_9 rfl q_777 rfl rfl rfl dX9_carry_92 (fun s7 es7 => ?_)
      have h := h s7 es7
      refine r_goto (pc := 95) (tgt := 108) E dX9_carry_95 (by decide) ?_
      exact r_forget (le_s (le_n (le_s (le_s le_0)))) (t_X9_carry_J108 E hr _ _ _ h)
  · have h := h.2 c6
    refine r_ldc (pc := 76) (v := (-1000002)) E q_963 dX9_carry_76 ?_
    exact r_iret (pc := 78) E hr dX9_carry_78 h

def w_X9_carry_J33 (Q : Int32 → ST → Prop) (s0 : ST) (v1 : Int32) (v2 : Int32) (v3 : Int32) : Prop := ((v1 = v2 → (Q (-1000001) s0)) ∧ (¬ (v1 = v2) → (w_X9_in s0 ((v3 : Int32).toInt64) 0 9000 (fun r1 s2 => ((¬ r1 = 0 → (((¬ v1 = (-1000000) → (vp_in v1 10 ∧ (w_X9_carry_J72 Q s2 v1 v2 v3 (s2 66 v1.toNatClampNeg)))) ∧ (v1 = (-1000000) → (w_X9_carry_J72 Q s2 v1 v2 v3 (s2 63 1)))))) ∧ (r1 = 0 → (Q (-1000001) s2)))))))
set_option maxRecDepth 100000 in
set_option maxHeartbeats 4000000 in
theorem t_X9_carry_J33 {p : Program} {l : Launch} {e : Env} {s : State} {m : MethodId} {args : Array Value} {below : List Frame} {meth : Method} {c : Code} {X : XT} (E : Ev p rm_X9_carry s m args meth c X (xA X) 4 0 0 cX9_carry RX9) (hr : meth.sig.returnType = (some .int)) {Q : Int32 → ST → Prop} (s0 : ST) (v1 : Int32) (v2 : Int32) (v3 : Int32) (h : w_X9_carry_J33 Q s0 v1 v2 v3) : G p l e rm_X9_carry s m args below meth c X (xA X) 4 0 0 (MQ below (va_Qi Q (Bw X) (xA X)) args s 0 0 (xA X)) s0 33 [some (.ref (xa X 63)), some (.int v1), some (.int v2), some (.int v3)] [] := by
  refine r_iload_n (pc := 33) E dX9_carry_33 rfl rfl ?_
  refine r_iload_n (pc := 34) E dX9_carry_34 rfl rfl ?_
  refine r_icmp_eq (pc := 35) (tgt := 50) E dX9_carry_35 (by decide) (fun c3 => ?_) (fun c3 => ?_)
  · have h := h.1 c3
    refine r_ldc (pc := 50) (v := (-1000001)) E q_951 dX9_carry_50 ?_
    exact r_iret (pc := 52) E hr dX9_carry_52 h
  · have h := h.2 c3
    refine r_iload_n (pc := 38) E dX9_carry_38 rfl rfl ?_
    refine r_i2l (pc := 39) E dX9_carry_39 ?_
    refine r_lconst (pc := 40) (v := 0) E dX9_carry_40 rfl ?_
    refine r_ldc2 (pc := 41) (v := 9000) E q_962 dX9_carry_41 ?_
    refine afterI (pc := 44) E (fun H locs ls hP hS hl => runS (As := [.long ((v3 : Int32).toInt64), .long 0, .long 9000]) (rest := []) E (c_X9_in X _ _ _ _ _  h) cs_X9_in q_947 rfl rfl rfl rfl dX9_carry_44 hP hS hl) (fun r1 s2 h => ?_)
    refine r_if_ne (pc := 47) (tgt := 53) E dX9_carry_47 (by decide) (fun c4 => ?_) (fun c4 => ?_)
    · have h := h.1 c4
      refine r_iload_n (pc := 53) E dX9_carry_53 rfl rfl ?_
      refine r_ldc (pc := 54) (v := (-1000000)) E q_957 dX9_carry_54 ?_
      refine r_icmp_ne (pc := 56) (tgt := 66) E dX9_carry_56 (by decide) (fun c5 => ?_) (fun c5 => ?_)
      · have h := h.1 c5
        refine r_aload_n (pc := 66) E dX9_carry_66 rfl rfl ?_
        refine r_get (pc := 67) (j := 13) (v := .ref (xa X 66)) E ok_63 kc_9 rfl q_789 rfl dX9_carry_67 ?_
        refine r_iload_n (pc := 70) E dX9_carry_70 rfl rfl ?_
        refine r_iald (pc := 71) (n := 10) E ok_66 rfl h.1 dX9_carry_71 ?_
        have h := h.2
        exact r_forget (le_s (le_s (le_s (le_s le_0)))) (t_X9_carry_J72 E hr _ _ _ _ _ h)
      · have h := h.2 c5
        refine r_aload_n (pc := 59) E dX9_carry_59 rfl rfl ?_
        refine r_get (pc := 60) (j := 1) E ok_63 kc_9 rfl q_777 (svI rfl) dX9_carry_60 ?_
        refine r_goto (pc := 63) (tgt := 72) E dX9_carry_63 (by decide) ?_
        exact r_forget (le_s (le_s (le_s (le_s le_0)))) (t_X9_carry_J72 E hr _ _ _ _ _ h)
    · have h := h.2 c4
      refine r_ldc (pc := 50) (v := (-1000001)) E q_951 dX9_carry_50 ?_
      exact r_iret (pc := 52) E hr dX9_carry_52 h

def w_X9_carry_J19 (Q : Int32 → ST → Prop) (s0 : ST) (v1 : Int32) (v2 : Int32) (v3 : Int32) : Prop := ((v2 = (-1000000) → (w_X9_carry_J33 Q s0 v1 v2 v3)) ∧ (¬ (v2 = (-1000000)) → (w_X9_isStretch s0 v2 (fun r3 s8 => ((r3 = 0 → (Q (-1000001) s8)) ∧ (¬ (r3 = 0) → (w_X9_carry_J33 Q s8 v1 v2 v3)))))))
set_option maxRecDepth 100000 in
set_option maxHeartbeats 4000000 in
theorem t_X9_carry_J19 {p : Program} {l : Launch} {e : Env} {s : State} {m : MethodId} {args : Array Value} {below : List Frame} {meth : Method} {c : Code} {X : XT} (E : Ev p rm_X9_carry s m args meth c X (xA X) 4 0 0 cX9_carry RX9) (hr : meth.sig.returnType = (some .int)) {Q : Int32 → ST → Prop} (s0 : ST) (v1 : Int32) (v2 : Int32) (v3 : Int32) (h : w_X9_carry_J19 Q s0 v1 v2 v3) : G p l e rm_X9_carry s m args below meth c X (xA X) 4 0 0 (MQ below (va_Qi Q (Bw X) (xA X)) args s 0 0 (xA X)) s0 19 [some (.ref (xa X 63)), some (.int v1), some (.int v2), some (.int v3)] [] := by
  refine r_iload_n (pc := 19) E dX9_carry_19 rfl rfl ?_
  refine r_ldc (pc := 20) (v := (-1000000)) E q_957 dX9_carry_20 ?_
  refine r_icmp_eq (pc := 22) (tgt := 33) E dX9_carry_22 (by decide) (fun c2 => ?_) (fun c2 => ?_)
  · have h := h.1 c2
    exact r_forget (le_s (le_s (le_s (le_s le_0)))) (t_X9_carry_J33 E hr _ _ _ _ h)
  · have h := h.2 c2
    refine r_aload_n (pc := 25) E dX9_carry_25 rfl rfl ?_
    refine r_iload_n (pc := 26) E dX9_carry_26 rfl rfl ?_
    refine afterI (pc := 27) E (fun H locs ls hP hS hl => runV (As := [.int v2]) (rest := []) E (c_X9_isStretch X _ _ _  h) ok_63 kc_9.1 ci_X9_isStretch q_958 rfl rfl rfl rfl dX9_carry_27 hP hS hl) (fun r3 s8 h => ?_)
    refine r_if_eq (pc := 30) (tgt := 50) E dX9_carry_30 (by decide) (fun c9 => ?_) (fun c9 => ?_)
    · have h := h.1 c9
      refine r_ldc (pc := 50) (v := (-1000001)) E q_951 dX9_carry_50 ?_
      exact r_iret (pc := 52) E hr dX9_carry_52 h
    · have h := h.2 c9
      exact r_forget (le_s (le_s (le_s (le_s le_0)))) (t_X9_carry_J33 E hr _ _ _ _ h)

def w_X9_carry (s0 : ST) (a1 : Int32) (a2 : Int32) (a3 : Int32) (Q : Int32 → ST → Prop) : Prop := ∀ s1 : ST, s1 = up s0 63 0 0 → (((a1 = (-1000000) → (w_X9_carry_J19 Q s1 a1 a2 a3)) ∧ (¬ (a1 = (-1000000)) → (w_X9_isStretch s1 a1 (fun r4 s9 => ((r4 = 0 → (Q (-1000001) s9)) ∧ (¬ (r4 = 0) → (w_X9_carry_J19 Q s9 a1 a2 a3))))))))
set_option maxRecDepth 100000 in
set_option maxHeartbeats 4000000 in
theorem c_X9_carry {l : Launch} (X : XT) (s0 : ST) (a1 : Int32) (a2 : Int32) (a3 : Int32) (Q : Int32 → ST → Prop) (h : w_X9_carry s0 a1 a2 a3 Q) : MetI l yX9_carry (wS yX9_carry cX9_carry 4 (some .int)) rm_X9_carry X s0 [.ref (xa X 63), .int a1, .int a2, .int a3] Q := by
  refine metG (own := RX9) (k := 0) (lv0 := [some (.ref (xa X 63)), some (.int a1), some (.int a2), some (.int a3)]) (by decide) rfl rfl rfl ?_
  intro p e s m args below meth c E hr
  refine r_aload_n (pc := 0) E dX9_carry_0 rfl rfl ?_
  refine r_iconst (pc := 1) (v := 0) E dX9_carry_1 (by decide) ?_
  refine r_put (pc := 2) (j := 0) E ok_63 kc_9 rfl q_776 rfl rfl rfl dX9_carry_2 (fun s1 es1 => ?_)
  have h := h s1 es1
  refine r_iload_n (pc := 5) E dX9_carry_5 rfl rfl ?_
  refine r_ldc (pc := 6) (v := (-1000000)) E q_957 dX9_carry_6 ?_
  refine r_icmp_eq (pc := 8) (tgt := 19) E dX9_carry_8 (by decide) (fun c1 => ?_) (fun c1 => ?_)
  · have h := h.1 c1
    exact r_forget (le_s (le_s (le_s (le_s le_0)))) (t_X9_carry_J19 E hr _ _ _ _ h)
  · have h := h.2 c1
    refine r_aload_n (pc := 11) E dX9_carry_11 rfl rfl ?_
    refine r_iload_n (pc := 12) E dX9_carry_12 rfl rfl ?_
    refine afterI (pc := 13) E (fun H locs ls hP hS hl => runV (As := [.int a1]) (rest := []) E (c_X9_isStretch X _ _ _  h) ok_63 kc_9.1 ci_X9_isStretch q_958 rfl rfl rfl rfl dX9_carry_13 hP hS hl) (fun r4 s9 h => ?_)
    refine r_if_eq (pc := 16) (tgt := 50) E dX9_carry_16 (by decide) (fun c10 => ?_) (fun c10 => ?_)
    · have h := h.1 c10
      refine r_ldc (pc := 50) (v := (-1000001)) E q_951 dX9_carry_50 ?_
      exact r_iret (pc := 52) E hr dX9_carry_52 h
    · have h := h.2 c10
      exact r_forget (le_s (le_s (le_s (le_s le_0)))) (t_X9_carry_J19 E hr _ _ _ _ h)

/-! ChairFrontModel.told -/
def rm_X9_told : Room := { frames := 2, cells := 0, slots := 0, locals := 46 }
theorem ci_X9_told : CI yX9_told RX9 cX9_told 3 (some .int) 2 := ⟨q_969, q_970, q_65, q_971, by decide +kernel⟩
def w_X9_told (s0 : ST) (a1 : Int32) (a2 : Int32) (Q : Int32 → ST → Prop) : Prop := ∀ s1 : ST, s1 = up s0 63 0 0 → (w_X9_isStretch s1 a1 (fun r1 s2 => ((r1 = 0 → (Q (-1000001) s2)) ∧ (¬ (r1 = 0) → (w_X9_in s2 ((a2 : Int32).toInt64) 0 5 (fun r2 s3 => ((¬ r2 = 0 → (((¬ a2 = 0 → (((¬ a2 = 1 → (((¬ a2 = 2 → (((¬ a2 = 3 → (((¬ a2 = 4 → (vp_in a1 10 ∧ (Q (s3 69 a1.toNatClampNeg) s3))) ∧ (a2 = 4 → (vp_in a1 10 ∧ (Q (s3 68 a1.toNatClampNeg) s3)))))) ∧ (a2 = 3 → (vp_in a1 10 ∧ (Q (s3 66 a1.toNatClampNeg) s3)))))) ∧ (a2 = 2 → (w_X9_standing s3 a1 (fun r3 s4 => Q r3 s4)))))) ∧ (a2 = 1 → (vp_in a1 10 ∧ (Q (s3 65 a1.toNatClampNeg) s3)))))) ∧ (a2 = 0 → (vp_in a1 10 ∧ (Q (s3 64 a1.toNatClampNeg) s3)))))) ∧ (r2 = 0 → (Q (-1000001) s3)))))))))
set_option maxRecDepth 100000 in
set_option maxHeartbeats 4000000 in
theorem c_X9_told {l : Launch} (X : XT) (s0 : ST) (a1 : Int32) (a2 : Int32) (Q : Int32 → ST → Prop) (h : w_X9_told s0 a1 a2 Q) : MetI l yX9_told (wS yX9_told cX9_told 3 (some .int)) rm_X9_told X s0 [.ref (xa X 63), .int a1, .int a2] Q := by
  refine metG (own := RX9) (k := 0) (lv0 := [some (.ref (xa X 63)), some (.int a1), some (.int a2)]) (by decide) rfl rfl rfl ?_
  intro p e s m args below meth c E hr
  refine r_aload_n (pc := 0) E dX9_told_0 rfl rfl ?_
  refine r_iconst (pc := 1) (v := 0) E dX9_told_1 (by decide) ?_
  refine r_put (pc := 2) (j := 0) E ok_63 kc_9 rfl q_776 rfl rfl rfl dX9_told_2 (fun s1 es1 => ?_)
  have h := h s1 es1
  refine r_aload_n (pc := 5) E dX9_told_5 rfl rfl ?_
  refine r_iload_n (pc := 6) E dX9_told_6 rfl rfl ?_
  refine afterI (pc := 7) E (fun H locs ls hP hS hl => runV (As := [.int a1]) (rest := []) E (c_X9_isStretch X _ _ _  h) ok_63 kc_9.1 ci_X9_isStretch q_958 rfl rfl rfl rfl dX9_told_7 hP hS hl) (fun r1 s2 h => ?_)
  refine r_if_eq (pc := 10) (tgt := 25) E dX9_told_10 (by decide) (fun c1 => ?_) (fun c1 => ?_)
  · have h := h.1 c1
    refine r_ldc (pc := 25) (v := (-1000001)) E q_951 dX9_told_25 ?_
    exact r_iret (pc := 27) E hr dX9_told_27 h
  · have h := h.2 c1
    refine r_iload_n (pc := 13) E dX9_told_13 rfl rfl ?_
    refine r_i2l (pc := 14) E dX9_told_14 ?_
    refine r_lconst (pc := 15) (v := 0) E dX9_told_15 rfl ?_
    refine r_ldc2 (pc := 16) (v := 5) E q_972 dX9_told_16 ?_
    refine afterI (pc := 19) E (fun H locs ls hP hS hl => runS (As := [.long ((a2 : Int32).toInt64), .long 0, .long 5]) (rest := []) E (c_X9_in X _ _ _ _ _  h) cs_X9_in q_947 rfl rfl rfl rfl dX9_told_19 hP hS hl) (fun r2 s3 h => ?_)
    refine r_if_ne (pc := 22) (tgt := 28) E dX9_told_22 (by decide) (fun c2 => ?_) (fun c2 => ?_)
    · have h := h.1 c2
      refine r_iload_n (pc := 28) E dX9_told_28 rfl rfl ?_
      refine r_if_ne (pc := 29) (tgt := 41) E dX9_told_29 (by decide) (fun c3 => ?_) (fun c3 => ?_)
      · have h := h.1 c3
        refine r_iload_n (pc := 41) E dX9_told_41 rfl rfl ?_
        refine r_iconst (pc := 42) (v := 1) E dX9_told_42 (by decide) ?_
        refine r_icmp_ne (pc := 43) (tgt := 55) E dX9_told_43 (by decide) (fun c4 => ?_) (fun c4 => ?_)
        · have h := h.1 c4
          refine r_iload_n (pc := 55) E dX9_told_55 rfl rfl ?_
          refine r_iconst (pc := 56) (v := 2) E dX9_told_56 (by decide) ?_
          refine r_icmp_ne (pc := 57) (tgt := 68) E dX9_told_57 (by decide) (fun c5 => ?_) (fun c5 => ?_)
          · have h := h.1 c5
            refine r_iload_n (pc := 68) E dX9_told_68 rfl rfl ?_
            refine r_iconst (pc := 69) (v := 3) E dX9_told_69 (by decide) ?_
            refine r_icmp_ne (pc := 70) (tgt := 82) E dX9_told_70 (by decide) (fun c6 => ?_) (fun c6 => ?_)
            · have h := h.1 c6
              refine r_iload_n (pc := 82) E dX9_told_82 rfl rfl ?_
              refine r_iconst (pc := 83) (v := 4) E dX9_told_83 (by decide) ?_
              refine r_icmp_ne (pc := 84) (tgt := 96) E dX9_told_84 (by decide) (fun c7 => ?_) (fun c7 => ?_)
              · have h := h.1 c7
                refine r_aload_n (pc := 96) E dX9_told_96 rfl rfl ?_
                refine r_get (pc := 97) (j := 16) (v := .ref (xa X 69)) E ok_63 kc_9 rfl q_792 rfl dX9_told_97 ?_
                refine r_iload_n (pc := 100) E dX9_told_100 rfl rfl ?_
                refine r_iald (pc := 101) (n := 10) E ok_69 rfl h.1 dX9_told_101 ?_
                have h := h.2
                exact r_iret (pc := 102) E hr dX9_told_102 h
              · have h := h.2 c7
                refine r_aload_n (pc := 87) E dX9_told_87 rfl rfl ?_
                refine r_get (pc := 88) (j := 15) (v := .ref (xa X 68)) E ok_63 kc_9 rfl q_791 rfl dX9_told_88 ?_
                refine r_iload_n (pc := 91) E dX9_told_91 rfl rfl ?_
                refine r_iald (pc := 92) (n := 10) E ok_68 rfl h.1 dX9_told_92 ?_
                have h := h.2
                refine r_goto (pc := 93) (tgt := 102) E dX9_told_93 (by decide) ?_
                exact r_iret (pc := 102) E hr dX9_told_102 h
            · have h := h.2 c6
              refine r_aload_n (pc := 73) E dX9_told_73 rfl rfl ?_
              refine r_get (pc := 74) (j := 13) (v := .ref (xa X 66)) E ok_63 kc_9 rfl q_789 rfl dX9_told_74 ?_
              refine r_iload_n (pc := 77) E dX9_told_77 rfl rfl ?_
              refine r_iald (pc := 78) (n := 10) E ok_66 rfl h.1 dX9_told_78 ?_
              have h := h.2
              refine r_goto (pc := 79) (tgt := 102) E dX9_told_79 (by decide) ?_
              exact r_iret (pc := 102) E hr dX9_told_102 h
          · have h := h.2 c5
            refine r_aload_n (pc := 60) E dX9_told_60 rfl rfl ?_
            refine r_iload_n (pc := 61) E dX9_told_61 rfl rfl ?_
            refine afterI (pc := 62) E (fun H locs ls hP hS hl => runV (As := [.int a1]) (rest := []) E (c_X9_standing X _ _ _  h) ok_63 kc_9.1 ci_X9_standing q_964 rfl rfl rfl rfl dX9_told_62 hP hS hl) (fun r3 s4 h => ?_)
            refine r_goto (pc := 65) (tgt := 102) E dX9_told_65 (by decide) ?_
            exact r_iret (pc := 102) E hr dX9_told_102 h
        · have h := h.2 c4
          refine r_aload_n (pc := 46) E dX9_told_46 rfl rfl ?_
          refine r_get (pc := 47) (j := 12) (v := .ref (xa X 65)) E ok_63 kc_9 rfl q_788 rfl dX9_told_47 ?_
          refine r_iload_n (pc := 50) E dX9_told_50 rfl rfl ?_
          refine r_iald (pc := 51) (n := 10) E ok_65 rfl h.1 dX9_told_51 ?_
          have h := h.2
          refine r_goto (pc := 52) (tgt := 102) E dX9_told_52 (by decide) ?_
          exact r_iret (pc := 102) E hr dX9_told_102 h
      · have h := h.2 c3
        refine r_aload_n (pc := 32) E dX9_told_32 rfl rfl ?_
        refine r_get (pc := 33) (j := 11) (v := .ref (xa X 64)) E ok_63 kc_9 rfl q_787 rfl dX9_told_33 ?_
        refine r_iload_n (pc := 36) E dX9_told_36 rfl rfl ?_
        refine r_iald (pc := 37) (n := 10) E ok_64 rfl h.1 dX9_told_37 ?_
        have h := h.2
        refine r_goto (pc := 38) (tgt := 102) E dX9_told_38 (by decide) ?_
        exact r_iret (pc := 102) E hr dX9_told_102 h
    · have h := h.2 c2
      refine r_ldc (pc := 25) (v := (-1000001)) E q_951 dX9_told_25 ?_
      exact r_iret (pc := 27) E hr dX9_told_27 h

/-! ChairFrontModel.rule -/
def rm_X9_rule : Room := { frames := 1, cells := 0, slots := 0, locals := 25 }
theorem ci_X9_rule : CI yX9_rule RX9 cX9_rule 4 (some .int) 2 := ⟨q_974, q_975, q_65, q_976, by decide +kernel⟩
def w_X9_rule (s0 : ST) (a1 : Int32) (a2 : Int32) (Q : Int32 → ST → Prop) : Prop := ∀ s1 : ST, s1 = up s0 63 0 0 → (w_X9_in s1 ((a1 : Int32).toInt64) 0 1 (fun r1 s2 => ((r1 = 0 → (Q (-1000001) s2)) ∧ (¬ (r1 = 0) → (w_X9_in s2 ((a2 : Int32).toInt64) (((1 - a1) : Int32).toInt64) 100 (fun r2 s3 => ((¬ r2 = 0 → (((¬ a1 = 0 → (∀ x1 : Int32, x1 = (s3 63 5) → (((¬ a1 = 0 → (∀ s4 : ST, s4 = up s3 63 4 (s3 63 4) → (((¬ a1 = 1 → (∀ s5 : ST, s5 = up s4 63 5 (s4 63 5) → (Q x1 s5))) ∧ (a1 = 1 → (∀ s6 : ST, s6 = up s4 63 5 a2 → (Q x1 s6))))))) ∧ (a1 = 0 → (∀ s7 : ST, s7 = up s3 63 4 a2 → (((¬ a1 = 1 → (∀ s8 : ST, s8 = up s7 63 5 (s7 63 5) → (Q x1 s8))) ∧ (a1 = 1 → (∀ s9 : ST, s9 = up s7 63 5 a2 → (Q x1 s9))))))))))) ∧ (a1 = 0 → (∀ x2 : Int32, x2 = (s3 63 4) → (((¬ a1 = 0 → (∀ s10 : ST, s10 = up s3 63 4 (s3 63 4) → (((¬ a1 = 1 → (∀ s11 : ST, s11 = up s10 63 5 (s10 63 5) → (Q x2 s11))) ∧ (a1 = 1 → (∀ s12 : ST, s12 = up s10 63 5 a2 → (Q x2 s12))))))) ∧ (a1 = 0 → (∀ s13 : ST, s13 = up s3 63 4 a2 → (((¬ a1 = 1 → (∀ s14 : ST, s14 = up s13 63 5 (s13 63 5) → (Q x2 s14))) ∧ (a1 = 1 → (∀ s15 : ST, s15 = up s13 63 5 a2 → (Q x2 s15)))))))))))))) ∧ (r2 = 0 → (Q (-1000001) s3)))))))))
set_option maxRecDepth 100000 in
set_option maxHeartbeats 4000000 in
theorem c_X9_rule {l : Launch} (X : XT) (s0 : ST) (a1 : Int32) (a2 : Int32) (Q : Int32 → ST → Prop) (h : w_X9_rule s0 a1 a2 Q) : MetI l yX9_rule (wS yX9_rule cX9_rule 4 (some .int)) rm_X9_rule X s0 [.ref (xa X 63), .int a1, .int a2] Q := by
  refine metG (own := RX9) (k := 1) (lv0 := [some (.ref (xa X 63)), some (.int a1), some (.int a2), none]) (by decide) rfl rfl rfl ?_
  intro p e s m args below meth c E hr
  refine r_aload_n (pc := 0) E dX9_rule_0 rfl rfl ?_
  refine r_iconst (pc := 1) (v := 0) E dX9_rule_1 (by decide) ?_
  refine r_put (pc := 2) (j := 0) E ok_63 kc_9 rfl q_776 rfl rfl rfl dX9_rule_2 (fun s1 es1 => ?_)
  have h := h s1 es1
  refine r_iload_n (pc := 5) E dX9_rule_5 rfl rfl ?_
  refine r_i2l (pc := 6) E dX9_rule_6 ?_
  refine r_lconst (pc := 7) (v := 0) E dX9_rule_7 rfl ?_
  refine r_lconst (pc := 8) (v := 1) E dX9_rule_8 rfl ?_
  refine afterI (pc := 9) E (fun H locs ls hP hS hl => runS (As := [.long ((a1 : Int32).toInt64), .long 0, .long 1]) (rest := []) E (c_X9_in X _ _ _ _ _  h) cs_X9_in q_947 rfl rfl rfl rfl dX9_rule_9 hP hS hl) (fun r1 s2 h => ?_)
  refine r_if_eq (pc := 12) (tgt := 30) E dX9_rule_12 (by decide) (fun c1 => ?_) (fun c1 => ?_)
  · have h := h.1 c1
    refine r_ldc (pc := 30) (v := (-1000001)) E q_951 dX9_rule_30 ?_
    exact r_iret (pc := 32) E hr dX9_rule_32 h
  · have h := h.2 c1
    refine r_iload_n (pc := 15) E dX9_rule_15 rfl rfl ?_
    refine r_i2l (pc := 16) E dX9_rule_16 ?_
    refine r_iconst (pc := 17) (v := 1) E dX9_rule_17 (by decide) ?_
    refine r_iload_n (pc := 18) E dX9_rule_18 rfl rfl ?_
    refine r_isub (pc := 19) E dX9_rule_19 ?_
    refine r_i2l (pc := 20) E dX9_rule_20 ?_
    refine r_ldc2 (pc := 21) (v := 100) E q_977 dX9_rule_21 ?_
    refine afterI (pc := 24) E (fun H locs ls hP hS hl => runS (As := [.long ((a2 : Int32).toInt64), .long (((1 - a1) : Int32).toInt64), .long 100]) (rest := []) E (c_X9_in X _ _ _ _ _  h) cs_X9_in q_947 rfl rfl rfl rfl dX9_rule_24 hP hS hl) (fun r2 s3 h => ?_)
    refine r_if_ne (pc := 27) (tgt := 33) E dX9_rule_27 (by decide) (fun c2 => ?_) (fun c2 => ?_)
    · have h := h.1 c2
      refine r_iload_n (pc := 33) E dX9_rule_33 rfl rfl ?_
      refine r_if_ne (pc := 34) (tgt := 44) E dX9_rule_34 (by decide) (fun c3 => ?_) (fun c3 => ?_)
      · have h := h.1 c3
        refine r_aload_n (pc := 44) E dX9_rule_44 rfl rfl ?_
        refine r_get (pc := 45) (j := 5) E ok_63 kc_9 rfl q_781 (svI rfl) dX9_rule_45 ?_
        refine r_topi (fun x1 ex1 => ?_)
        have h := h x1 ex1
        refine r_istore_n (pc := 48) (lv' := [some (.ref (xa X 63)), some (.int a1), some (.int a2), some (.int x1)]) E dX9_rule_48 rfl rfl rfl rfl ?_
        refine r_aload_n (pc := 49) E dX9_rule_49 rfl rfl ?_
        refine r_iload_n (pc := 50) E dX9_rule_50 rfl rfl ?_
        refine r_if_ne (pc := 51) (tgt := 58) E dX9_rule_51 (by decide) (fun c4 => ?_) (fun c4 => ?_)
        · have h := h.1 c4
          refine r_aload_n (pc := 58) E dX9_rule_58 rfl rfl ?_
          refine r_get (pc := 59) (j := 4) E ok_63 kc_9 rfl q_780 (svI rfl) dX9_rule_59 ?_
          refine r_put (pc := 62) (j := 4) E ok_63 kc_9 rfl q_780 rfl rfl rfl dX9_rule_62 (fun s4 es4 => ?_)
          have h := h s4 es4
          refine r_aload_n (pc := 65) E dX9_rule_65 rfl rfl ?_
          refine r_iload_n (pc := 66) E dX9_rule_66 rfl rfl ?_
          refine r_iconst (pc := 67) (v := 1) E dX9_rule_67 (by decide) ?_
          refine r_icmp_ne (pc := 68) (tgt := 75) E dX9_rule_68 (by decide) (fun c5 => ?_) (fun c5 => ?_)
          · have h := h.1 c5
            refine r_aload_n (pc := 75) E dX9_rule_75 rfl rfl ?_
            refine r_get (pc := 76) (j := 5) E ok_63 kc_9 rfl q_781 (svI rfl) dX9_rule_76 ?_
            refine r_put (pc := 79) (j := 5) E ok_63 kc_9 rfl q_781 rfl rfl rfl dX9_rule_79 (fun s5 es5 => ?_)
            have h := h s5 es5
            refine r_iload_n (pc := 82) E dX9_rule_82 rfl rfl ?_
            exact r_iret (pc := 83) E hr dX9_rule_83 h
          · have h := h.2 c5
            refine r_iload_n (pc := 71) E dX9_rule_71 rfl rfl ?_
            refine r_goto (pc := 72) (tgt := 79) E dX9_rule_72 (by decide) ?_
            refine r_put (pc := 79) (j := 5) E ok_63 kc_9 rfl q_781 rfl rfl rfl dX9_rule_79 (fun s6 es6 => ?_)
            have h := h s6 es6
            refine r_iload_n (pc := 82) E dX9_rule_82 rfl rfl ?_
            exact r_iret (pc := 83) E hr dX9_rule_83 h
        · have h := h.2 c4
          refine r_iload_n (pc := 54) E dX9_rule_54 rfl rfl ?_
          refine r_goto (pc := 55) (tgt := 62) E dX9_rule_55 (by decide) ?_
          refine r_put (pc := 62) (j := 4) E ok_63 kc_9 rfl q_780 rfl rfl rfl dX9_rule_62 (fun s7 es7 => ?_)
          have h := h s7 es7
          refine r_aload_n (pc := 65) E dX9_rule_65 rfl rfl ?_
          refine r_iload_n (pc := 66) E dX9_rule_66 rfl rfl ?_
          refine r_iconst (pc := 67) (v := 1) E dX9_rule_67 (by decide) ?_
          refine r_icmp_ne (pc := 68) (tgt := 75) E dX9_rule_68 (by decide) (fun c6 => ?_) (fun c6 => ?_)
          · have h := h.1 c6
            refine r_aload_n (pc := 75) E dX9_rule_75 rfl rfl ?_
            refine r_get (pc := 76) (j := 5) E ok_63 kc_9 rfl q_781 (svI rfl) dX9_rule_76 ?_
            refine r_put (pc := 79) (j := 5) E ok_63 kc_9 rfl q_781 rfl rfl rfl dX9_rule_79 (fun s8 es8 => ?_)
            have h := h s8 es8
            refine r_iload_n (pc := 82) E dX9_rule_82 rfl rfl ?_
            exact r_iret (pc := 83) E hr dX9_rule_83 h
          · have h := h.2 c6
            refine r_iload_n (pc := 71) E dX9_rule_71 rfl rfl ?_
            refine r_goto (pc := 72) (tgt := 79) E dX9_rule_72 (by decide) ?_
            refine r_put (pc := 79) (j := 5) E ok_63 kc_9 rfl q_781 rfl rfl rfl dX9_rule_79 (fun s9 es9 => ?_)
            have h := h s9 es9
            refine r_iload_n (pc := 82) E dX9_rule_82 rfl rfl ?_
            exact r_iret (pc := 83) E hr dX9_rule_83 h
      · have h := h.2 c3
        refine r_aload_n (pc := 37) E dX9_rule_37 rfl rfl ?_
        refine r_get (pc := 38) (j := 4) E ok_63 kc_9 rfl q_780 (svI rfl) dX9_rule_38 ?_
        refine r_goto (pc := 41) (tgt := 48) E dX9_rule_41 (by decide) ?_
        refine r_topi (fun x2 ex2 => ?_)
        have h := h x2 ex2
        refine r_istore_n (pc := 48) (lv' := [some (.ref (xa X 63)), some (.int a1), some (.int a2), some (.int x2)]) E dX9_rule_48 rfl rfl rfl rfl ?_
        refine r_aload_n (pc := 49) E dX9_rule_49 rfl rfl ?_
        refine r_iload_n (pc := 50) E dX9_rule_50 rfl rfl ?_
        refine r_if_ne (pc := 51) (tgt := 58) E dX9_rule_51 (by decide) (fun c7 => ?_) (fun c7 => ?_)
        · have h := h.1 c7
          refine r_aload_n (pc := 58) E dX9_rule_58 rfl rfl ?_
          refine r_get (pc := 59) (j := 4) E ok_63 kc_9 rfl q_780 (svI rfl) dX9_rule_59 ?_
          refine r_put (pc := 62) (j := 4) E ok_63 kc_9 rfl q_780 rfl rfl rfl dX9_rule_62 (fun s10 es10 => ?_)
          have h := h s10 es10
          refine r_aload_n (pc := 65) E dX9_rule_65 rfl rfl ?_
          refine r_iload_n (pc := 66) E dX9_rule_66 rfl rfl ?_
          refine r_iconst (pc := 67) (v := 1) E dX9_rule_67 (by decide) ?_
          refine r_icmp_ne (pc := 68) (tgt := 75) E dX9_rule_68 (by decide) (fun c8 => ?_) (fun c8 => ?_)
          · have h := h.1 c8
            refine r_aload_n (pc := 75) E dX9_rule_75 rfl rfl ?_
            refine r_get (pc := 76) (j := 5) E ok_63 kc_9 rfl q_781 (svI rfl) dX9_rule_76 ?_
            refine r_put (pc := 79) (j := 5) E ok_63 kc_9 rfl q_781 rfl rfl rfl dX9_rule_79 (fun s11 es11 => ?_)
            have h := h s11 es11
            refine r_iload_n (pc := 82) E dX9_rule_82 rfl rfl ?_
            exact r_iret (pc := 83) E hr dX9_rule_83 h
          · have h := h.2 c8
            refine r_iload_n (pc := 71) E dX9_rule_71 rfl rfl ?_
            refine r_goto (pc := 72) (tgt := 79) E dX9_rule_72 (by decide) ?_
            refine r_put (pc := 79) (j := 5) E ok_63 kc_9 rfl q_781 rfl rfl rfl dX9_rule_79 (fun s12 es12 => ?_)
            have h := h s12 es12
            refine r_iload_n (pc := 82) E dX9_rule_82 rfl rfl ?_
            exact r_iret (pc := 83) E hr dX9_rule_83 h
        · have h := h.2 c7
          refine r_iload_n (pc := 54) E dX9_rule_54 rfl rfl ?_
          refine r_goto (pc := 55) (tgt := 62) E dX9_rule_55 (by decide) ?_
          refine r_put (pc := 62) (j := 4) E ok_63 kc_9 rfl q_780 rfl rfl rfl dX9_rule_62 (fun s13 es13 => ?_)
          have h := h s13 es13
          refine r_aload_n (pc := 65) E dX9_rule_65 rfl rfl ?_
          refine r_iload_n (pc := 66) E dX9_rule_66 rfl rfl ?_
          refine r_iconst (pc := 67) (v := 1) E dX9_rule_67 (by decide) ?_
          refine r_icmp_ne (pc := 68) (tgt := 75) E dX9_rule_68 (by decide) (fun c9 => ?_) (fun c9 => ?_)
          · have h := h.1 c9
            refine r_aload_n (pc := 75) E dX9_rule_75 rfl rfl ?_
            refine r_get (pc := 76) (j := 5) E ok_63 kc_9 rfl q_781 (svI rfl) dX9_rule_76 ?_
            refine r_put (pc := 79) (j := 5) E ok_63 kc_9 rfl q_781 rfl rfl rfl dX9_rule_79 (fun s14 es14 => ?_)
            have h := h s14 es14
            refine r_iload_n (pc := 82) E dX9_rule_82 rfl rfl ?_
            exact r_iret (pc := 83) E hr dX9_rule_83 h
          · have h := h.2 c9
            refine r_iload_n (pc := 71) E dX9_rule_71 rfl rfl ?_
            refine r_goto (pc := 72) (tgt := 79) E dX9_rule_72 (by decide) ?_
            refine r_put (pc := 79) (j := 5) E ok_63 kc_9 rfl q_781 rfl rfl rfl dX9_rule_79 (fun s15 es15 => ?_)
            have h := h s15 es15
            refine r_iload_n (pc := 82) E dX9_rule_82 rfl rfl ?_
            exact r_iret (pc := 83) E hr dX9_rule_83 h
    · have h := h.2 c2
      refine r_ldc (pc := 30) (v := (-1000001)) E q_951 dX9_rule_30 ?_
      exact r_iret (pc := 32) E hr dX9_rule_32 h

/-! ChairFrontModel.mend -/
def rm_X9_mend : Room := { frames := 1, cells := 0, slots := 0, locals := 25 }
theorem ci_X9_mend : CI yX9_mend RX9 cX9_mend 2 (some .int) 1 := ⟨q_979, q_980, q_65, q_981, by decide +kernel⟩
def w_X9_mend (s0 : ST) (a1 : Int32) (Q : Int32 → ST → Prop) : Prop := ∀ s1 : ST, s1 = up s0 63 0 0 → (w_X9_in s1 ((a1 : Int32).toInt64) 0 9000 (fun r1 s2 => ((¬ r1 = 0 → (((a1 ≤ (s2 63 3) → (∀ s3 : ST, s3 = up s2 63 3 ((s2 63 3) - a1) → (∀ s4 : ST, s4 = up s3 63 1 ((s3 63 1) + a1) → (Q (s4 63 3) s4)))) ∧ (¬ (a1 ≤ (s2 63 3)) → (Q (-1000002) s2))))) ∧ (r1 = 0 → (Q (-1000001) s2)))))
set_option maxRecDepth 100000 in
set_option maxHeartbeats 4000000 in
theorem c_X9_mend {l : Launch} (X : XT) (s0 : ST) (a1 : Int32) (Q : Int32 → ST → Prop) (h : w_X9_mend s0 a1 Q) : MetI l yX9_mend (wS yX9_mend cX9_mend 2 (some .int)) rm_X9_mend X s0 [.ref (xa X 63), .int a1] Q := by
  refine metG (own := RX9) (k := 0) (lv0 := [some (.ref (xa X 63)), some (.int a1)]) (by decide) rfl rfl rfl ?_
  intro p e s m args below meth c E hr
  refine r_aload_n (pc := 0) E dX9_mend_0 rfl rfl ?_
  refine r_iconst (pc := 1) (v := 0) E dX9_mend_1 (by decide) ?_
  refine r_put (pc := 2) (j := 0) E ok_63 kc_9 rfl q_776 rfl rfl rfl dX9_mend_2 (fun s1 es1 => ?_)
  have h := h s1 es1
  refine r_iload_n (pc := 5) E dX9_mend_5 rfl rfl ?_
  refine r_i2l (pc := 6) E dX9_mend_6 ?_
  refine r_lconst (pc := 7) (v := 0) E dX9_mend_7 rfl ?_
  refine r_ldc2 (pc := 8) (v := 9000) E q_962 dX9_mend_8 ?_
  refine afterI (pc := 11) E (fun H locs ls hP hS hl => runS (As := [.long ((a1 : Int32).toInt64), .long 0, .long 9000]) (rest := []) E (c_X9_in X _ _ _ _ _  h) cs_X9_in q_947 rfl rfl rfl rfl dX9_mend_11 hP hS hl) (fun r1 s2 h => ?_)
  refine r_if_ne (pc := 14) (tgt := 20) E dX9_mend_14 (by decide) (fun c1 => ?_) (fun c1 => ?_)
  · have h := h.1 c1
    refine r_aload_n (pc := 20) E dX9_mend_20 rfl rfl ?_
    refine r_get (pc := 21) (j := 3) E ok_63 kc_9 rfl q_779 (svI rfl) dX9_mend_21 ?_
    refine r_iload_n (pc := 24) E dX9_mend_24 rfl rfl ?_
    refine r_icmp_ge (pc := 25) (tgt := 31) E dX9_mend_25 (by decide) (fun c2 => ?_) (fun c2 => ?_)
    · have h := h.1 c2
      refine r_aload_n (pc := 31) E dX9_mend_31 rfl rfl ?_
      refine r_dup (pc := 32) E dX9_mend_32 rfl ?_
      refine r_get (pc := 33) (j := 3) E ok_63 kc_9 rfl q_779 (svI rfl) dX9_mend_33 ?_
      refine r_iload_n (pc := 36) E dX9_mend_36 rfl rfl ?_
      refine r_isub (pc := 37) E dX9_mend_37 ?_
      refine r_put (pc := 38) (j := 3) E ok_63 kc_9 rfl q_779 rfl rfl rfl dX9_mend_38 (fun s3 es3 => ?_)
      have h := h s3 es3
      refine r_aload_n (pc := 41) E dX9_mend_41 rfl rfl ?_
      refine r_dup (pc := 42) E dX9_mend_42 rfl ?_
      refine r_get (pc := 43) (j := 1) E ok_63 kc_9 rfl q_777 (svI rfl) dX9_mend_43 ?_
      refine r_iload_n (pc := 46) E dX9_mend_46 rfl rfl ?_
      refine r_iadd (pc := 47) E dX9_mend_47 ?_
      refine r_put (pc := 48) (j := 1) E ok_63 kc_9 rfl q_777 rfl rfl rfl dX9_mend_48 (fun s4 es4 => ?_)
      have h := h s4 es4
      refine r_aload_n (pc := 51) E dX9_mend_51 rfl rfl ?_
      refine r_get (pc := 52) (j := 3) E ok_63 kc_9 rfl q_779 (svI rfl) dX9_mend_52 ?_
      exact r_iret (pc := 55) E hr dX9_mend_55 h
    · have h := h.2 c2
      refine r_ldc (pc := 28) (v := (-1000002)) E q_963 dX9_mend_28 ?_
      exact r_iret (pc := 30) E hr dX9_mend_30 h
  · have h := h.2 c1
    refine r_ldc (pc := 17) (v := (-1000001)) E q_951 dX9_mend_17 ?_
    exact r_iret (pc := 19) E hr dX9_mend_19 h

/-! ChairFrontModel.hire -/
def rm_X9_hire : Room := { frames := 2, cells := 0, slots := 0, locals := 46 }
theorem ci_X9_hire : CI yX9_hire RX9 cX9_hire 4 (some .int) 3 := ⟨q_983, q_984, q_65, q_985, by decide +kernel⟩
def w_X9_hire (s0 : ST) (a1 : Int32) (a2 : Int32) (a3 : Int32) (Q : Int32 → ST → Prop) : Prop := ∀ s1 : ST, s1 = up s0 63 0 0 → (w_X9_isStretch s1 a1 (fun r1 s2 => ((r1 = 0 → (Q (-1000001) s2)) ∧ (¬ (r1 = 0) → (w_X9_in s2 ((a2 : Int32).toInt64) 1 100 (fun r2 s3 => ((r2 = 0 → (Q (-1000001) s3)) ∧ (¬ (r2 = 0) → (w_X9_in s3 ((a3 : Int32).toInt64) 1 12 (fun r3 s4 => ((¬ r3 = 0 → ((((s4 63 6) ≤ (s4 63 5) → ((((s4 63 18) = 30 → (Q (-1000003) s4)) ∧ (¬ ((s4 63 18) = 30) → (vp_in a1 10 ∧ (((a2 ≤ (s4 66 a1.toNatClampNeg) → (vp_in (s4 63 18) 30 ∧ (∀ s5 : ST, s5 = up s4 71 (s4 63 18).toNatClampNeg (s4 63 19) → (vp_in (s5 63 18) 30 ∧ (∀ s6 : ST, s6 = up s5 72 (s5 63 18).toNatClampNeg a1 → (vp_in (s6 63 18) 30 ∧ (∀ s7 : ST, s7 = up s6 73 (s6 63 18).toNatClampNeg a2 → (vp_in (s7 63 18) 30 ∧ (∀ s8 : ST, s8 = up s7 74 (s7 63 18).toNatClampNeg a3 → (vp_in (s8 63 18) 30 ∧ (∀ s9 : ST, s9 = up s8 75 (s8 63 18).toNatClampNeg (((s8 63 4) * a2) * a3) → (vp_in (s9 63 18) 30 ∧ (∀ s10 : ST, s10 = up s9 76 (s9 63 18).toNatClampNeg (s9 63 4) → (vp_in a1 10 ∧ (vp_in (s10 63 18) 30 ∧ (∀ s11 : ST, s11 = up s10 77 (s10 63 18).toNatClampNeg (s10 65 a1.toNatClampNeg) → (vp_in a1 10 ∧ (vp_in a1 10 ∧ (∀ s12 : ST, s12 = up s11 66 a1.toNatClampNeg ((s11 66 a1.toNatClampNeg) - a2) → (vp_in a1 10 ∧ (vp_in a1 10 ∧ (∀ s13 : ST, s13 = up s12 67 a1.toNatClampNeg ((s12 67 a1.toNatClampNeg) + a2) → (vp_in (s13 63 18) 30 ∧ (∀ s14 : ST, s14 = up s13 63 8 ((s13 63 8) + (s13 75 (s13 63 18).toNatClampNeg)) → (∀ s15 : ST, s15 = up s14 63 18 ((s14 63 18) + 1) → (∀ s16 : ST, s16 = up s15 63 19 ((s15 63 19) + 1) → (Q ((s16 63 19) - 1) s16))))))))))))))))))))))))))) ∧ (¬ (a2 ≤ (s4 66 a1.toNatClampNeg)) → (Q (-1000003) s4))))))))) ∧ (¬ ((s4 63 6) ≤ (s4 63 5)) → (Q (-1000002) s4))))) ∧ (r3 = 0 → (Q (-1000001) s4)))))))))))))
set_option maxRecDepth 100000 in
set_option maxHeartbeats 4000000 in
theorem c_X9_hire {l : Launch} (X : XT) (s0 : ST) (a1 : Int32) (a2 : Int32) (a3 : Int32) (Q : Int32 → ST → Prop) (h : w_X9_hire s0 a1 a2 a3 Q) : MetI l yX9_hire (wS yX9_hire cX9_hire 4 (some .int)) rm_X9_hire X s0 [.ref (xa X 63), .int a1, .int a2, .int a3] Q := by
  refine metG (own := RX9) (k := 0) (lv0 := [some (.ref (xa X 63)), some (.int a1), some (.int a2), some (.int a3)]) (by decide) rfl rfl rfl ?_
  intro p e s m args below meth c E hr
  refine r_aload_n (pc := 0) E dX9_hire_0 rfl rfl ?_
  refine r_iconst (pc := 1) (v := 0) E dX9_hire_1 (by decide) ?_
  refine r_put (pc := 2) (j := 0) E ok_63 kc_9 rfl q_776 rfl rfl rfl dX9_hire_2 (fun s1 es1 => ?_)
  have h := h s1 es1
  refine r_aload_n (pc := 5) E dX9_hire_5 rfl rfl ?_
  refine r_iload_n (pc := 6) E dX9_hire_6 rfl rfl ?_
  refine afterI (pc := 7) E (fun H locs ls hP hS hl => runV (As := [.int a1]) (rest := []) E (c_X9_isStretch X _ _ _  h) ok_63 kc_9.1 ci_X9_isStretch q_958 rfl rfl rfl rfl dX9_hire_7 hP hS hl) (fun r1 s2 h => ?_)
  refine r_if_eq (pc := 10) (tgt := 37) E dX9_hire_10 (by decide) (fun c1 => ?_) (fun c1 => ?_)
  · have h := h.1 c1
    refine r_ldc (pc := 37) (v := (-1000001)) E q_951 dX9_hire_37 ?_
    exact r_iret (pc := 39) E hr dX9_hire_39 h
  · have h := h.2 c1
    refine r_iload_n (pc := 13) E dX9_hire_13 rfl rfl ?_
    refine r_i2l (pc := 14) E dX9_hire_14 ?_
    refine r_lconst (pc := 15) (v := 1) E dX9_hire_15 rfl ?_
    refine r_ldc2 (pc := 16) (v := 100) E q_977 dX9_hire_16 ?_
    refine afterI (pc := 19) E (fun H locs ls hP hS hl => runS (As := [.long ((a2 : Int32).toInt64), .long 1, .long 100]) (rest := []) E (c_X9_in X _ _ _ _ _  h) cs_X9_in q_947 rfl rfl rfl rfl dX9_hire_19 hP hS hl) (fun r2 s3 h => ?_)
    refine r_if_eq (pc := 22) (tgt := 37) E dX9_hire_22 (by decide) (fun c2 => ?_) (fun c2 => ?_)
    · have h := h.1 c2
      refine r_ldc (pc := 37) (v := (-1000001)) E q_951 dX9_hire_37 ?_
      exact r_iret (pc := 39) E hr dX9_hire_39 h
    · have h := h.2 c2
      refine r_iload_n (pc := 25) E dX9_hire_25 rfl rfl ?_
      refine r_i2l (pc := 26) E dX9_hire_26 ?_
      refine r_lconst (pc := 27) (v := 1) E dX9_hire_27 rfl ?_
      refine r_ldc2 (pc := 28) (v := 12) E q_986 dX9_hire_28 ?_
      refine afterI (pc := 31) E (fun H locs ls hP hS hl => runS (As := [.long ((a3 : Int32).toInt64), .long 1, .long 12]) (rest := []) E (c_X9_in X _ _ _ _ _  h) cs_X9_in q_947 rfl rfl rfl rfl dX9_hire_31 hP hS hl) (fun r3 s4 h => ?_)
      refine r_if_ne (pc := 34) (tgt := 40) E dX9_hire_34 (by decide) (fun c3 => ?_) (fun c3 => ?_)
      · have h := h.1 c3
        refine r_aload_n (pc := 40) E dX9_hire_40 rfl rfl ?_
        refine r_get (pc := 41) (j := 6) E ok_63 kc_9 rfl q_782 (svI rfl) dX9_hire_41 ?_
        refine r_aload_n (pc := 44) E dX9_hire_44 rfl rfl ?_
        refine r_get (pc := 45) (j := 5) E ok_63 kc_9 rfl q_781 (svI rfl) dX9_hire_45 ?_
        refine r_icmp_le (pc := 48) (tgt := 54) E dX9_hire_48 (by decide) (fun c4 => ?_) (fun c4 => ?_)
        · have h := h.1 c4
          refine r_aload_n (pc := 54) E dX9_hire_54 rfl rfl ?_
          refine r_get (pc := 55) (j := 18) E ok_63 kc_9 rfl q_794 (svI rfl) dX9_hire_55 ?_
          refine r_bipush (pc := 58) (v := 30) E dX9_hire_58 (by decide) ?_
          refine r_icmp_eq (pc := 60) (tgt := 73) E dX9_hire_60 (by decide) (fun c5 => ?_) (fun c5 => ?_)
          · have h := h.1 c5
            refine r_ldc (pc := 73) (v := (-1000003)) E q_952 dX9_hire_73 ?_
            exact r_iret (pc := 75) E hr dX9_hire_75 h
          · have h := h.2 c5
            refine r_aload_n (pc := 63) E dX9_hire_63 rfl rfl ?_
            refine r_get (pc := 64) (j := 13) (v := .ref (xa X 66)) E ok_63 kc_9 rfl q_789 rfl dX9_hire_64 ?_
            refine r_iload_n (pc := 67) E dX9_hire_67 rfl rfl ?_
            refine r_iald (pc := 68) (n := 10) E ok_66 rfl h.1 dX9_hire_68 ?_
            have h := h.2
            refine r_iload_n (pc := 69) E dX9_hire_69 rfl rfl ?_
            refine r_icmp_ge (pc := 70) (tgt := 76) E dX9_hire_70 (by decide) (fun c6 => ?_) (fun c6 => ?_)
            · have h := h.1 c6
              refine r_aload_n (pc := 76) E dX9_hire_76 rfl rfl ?_
              refine r_get (pc := 77) (j := 20) (v := .ref (xa X 71)) E ok_63 kc_9 rfl q_796 rfl dX9_hire_77 ?_
              refine r_aload_n (pc := 80) E dX9_hire_80 rfl rfl ?_
              refine r_get (pc := 81) (j := 18) E ok_63 kc_9 rfl q_794 (svI rfl) dX9_hire_81 ?_
              refine r_aload_n (pc := 84) E dX9_hire_84 rfl rfl ?_
              refine r_get (pc := 85) (j := 19) E ok_63 kc_9 rfl q_795 (svI rfl) dX9_hire_85 ?_
              refine r_iast (pc := 88) (n := 30) E ok_71 rfl h.1 dX9_hire_88 (fun s5 es5 => ?_)
              have h := h.2 s5 es5
              refine r_aload_n (pc := 89) E dX9_hire_89 rfl rfl ?_
              refine r_get (pc := 90) (j := 21) (v := .ref (xa X 72)) E ok_63 kc_9 rfl q_797 rfl dX9_hire_90 ?_
              refine r_aload_n (pc := 93) E dX9_hire_93 rfl rfl ?_
              refine r_get (pc := 94) (j := 18) E ok_63 kc_9 rfl q_794 (svI rfl) dX9_hire_94 ?_
              refine r_iload_n (pc := 97) E dX9_hire_97 rfl rfl ?_
              refine r_iast (pc := 98) (n := 30) E ok_72 rfl h.1 dX9_hire_98 (fun s6 es6 => ?_)
              have h := h.2 s6 es6
              refine r_aload_n (pc := 99) E dX9_hire_99 rfl rfl ?_
              refine r_get (pc := 100) (j := 22) (v := .ref (xa X 73)) E ok_63 kc_9 rfl q_798 rfl dX9_hire_100 ?_
              refine r_aload_n (pc := 103) E dX9_hire_103 rfl rfl ?_
              refine r_get (pc := 104) (j := 18) E ok_63 kc_9 rfl q_794 (svI rfl) dX9_hire_104 ?_
              refine r_iload_n (pc := 107) E dX9_hire_107 rfl rfl ?_
              refine r_iast (pc := 108) (n := 30) E ok_73 rfl h.1 dX9_hire_108 (fun s7 es7 => ?_)
              have h := h.2 s7 es7
              refine r_aload_n (pc := 109) E dX9_hire_109 rfl rfl ?_
              refine r_get (pc := 110) (j := 23) (v := .ref (xa X 74)) E ok_63 kc_9 rfl q_799 rfl dX9_hire_110 ?_
              refine r_aload_n (pc := 113) E dX9_hire_113 rfl rfl ?_
              refine r_get (pc := 114) (j := 18) E ok_63 kc_9 rfl q_794 (svI rfl) dX9_hire_114 ?_
              refine r_iload_n (pc := 117) E dX9_hire_117 rfl rfl ?_
              refine r_iast (pc := 118) (n := 30) E ok_74 rfl h.1 dX9_hire_118 (fun s8 es8 => ?_)
              have h := h.2 s8 es8
              refine r_aload_n (pc := 119) E dX9_hire_119 rfl rfl ?_
              refine r_get (pc := 120) (j := 24) (v := .ref (xa X 75)) E ok_63 kc_9 rfl q_800 rfl dX9_hire_120 ?_
              refine r_aload_n (pc := 123) E dX9_hire_123 rfl rfl ?_
              refine r_get (pc := 124) (j := 18) E ok_63 kc_9 rfl q_794 (svI rfl) dX9_hire_124 ?_
              refine r_aload_n (pc := 127) E dX9_hire_127 rfl rfl ?_
              refine r_get (pc := 128) (j := 4) E ok_63 kc_9 rfl q_780 (svI rfl) dX9_hire_128 ?_
              refine r_iload_n (pc := 131) E dX9_hire_131 rfl rfl ?_
              refine r_imul (pc := 132) E dX9_hire_132 ?_
              refine r_iload_n (pc := 133) E dX9_hire_133 rfl rfl ?_
              refine r_imul (pc := 134) E dX9_hire_134 ?_
              refine r_iast (pc := 135) (n := 30) E ok_75 rfl h.1 dX9_hire_135 (fun s9 es9 => ?_)
              have h := h.2 s9 es9
              refine r_aload_n (pc := 136) E dX9_hire_136 rfl rfl ?_
              refine r_get (pc := 137) (j := 25) (v := .ref (xa X 76)) E ok_63 kc_9 rfl q_801 rfl dX9_hire_137 ?_
              refine r_aload_n (pc := 140) E dX9_hire_140 rfl rfl ?_
              refine r_get (pc := 141) (j := 18) E ok_63 kc_9 rfl q_794 (svI rfl) dX9_hire_141 ?_
              refine r_aload_n (pc := 144) E dX9_hire_144 rfl rfl ?_
              refine r_get (pc := 145) (j := 4) E ok_63 kc_9 rfl q_780 (svI rfl) dX9_hire_145 ?_
              refine r_iast (pc := 148) (n := 30) E ok_76 rfl h.1 dX9_hire_148 (fun s10 es10 => ?_)
              have h := h.2 s10 es10
              refine r_aload_n (pc := 149) E dX9_hire_149 rfl rfl ?_
              refine r_get (pc := 150) (j := 26) (v := .ref (xa X 77)) E ok_63 kc_9 rfl q_802 rfl dX9_hire_150 ?_
              refine r_aload_n (pc := 153) E dX9_hire_153 rfl rfl ?_
              refine r_get (pc := 154) (j := 18) E ok_63 kc_9 rfl q_794 (svI rfl) dX9_hire_154 ?_
              refine r_aload_n (pc := 157) E dX9_hire_157 rfl rfl ?_
              refine r_get (pc := 158) (j := 12) (v := .ref (xa X 65)) E ok_63 kc_9 rfl q_788 rfl dX9_hire_158 ?_
              refine r_iload_n (pc := 161) E dX9_hire_161 rfl rfl ?_
              refine r_iald (pc := 162) (n := 10) E ok_65 rfl h.1 dX9_hire_162 ?_
              have h := h.2
              refine r_iast (pc := 163) (n := 30) E ok_77 rfl h.1 dX9_hire_163 (fun s11 es11 => ?_)
              have h := h.2 s11 es11
              refine r_aload_n (pc := 164) E dX9_hire_164 rfl rfl ?_
              refine r_get (pc := 165) (j := 13) (v := .ref (xa X 66)) E ok_63 kc_9 rfl q_789 rfl dX9_hire_165 ?_
              refine r_iload_n (pc := 168) E dX9_hire_168 rfl rfl ?_
              refine r_dup2 (pc := 169) E dX9_hire_169 rfl rfl ?_
              refine r_iald (pc := 170) (n := 10) E ok_66 rfl h.1 dX9_hire_170 ?_
              have h := h.2
              refine r_iload_n (pc := 171) E dX9_hire_171 rfl rfl ?_
              refine r_isub (pc := 172) E dX9_hire_172 ?_
              refine r_iast (pc := 173) (n := 10) E ok_66 rfl h.1 dX9_hire_173 (fun s12 es12 => ?_)
              have h := h.2 s12 es12
              refine r_aload_n (pc := 174) E dX9_hire_174 rfl rfl ?_
              refine r_get (pc := 175) (j := 14) (v := .ref (xa X 67)) E ok_63 kc_9 rfl q_790 rfl dX9_hire_175 ?_
              refine r_iload_n (pc := 178) E dX9_hire_178 rfl rfl ?_
              refine r_dup2 (pc := 179) E dX9_hire_179 rfl rfl ?_
              refine r_iald (pc := 180) (n := 10) E ok_67 rfl h.1 dX9_hire_180 ?_
              have h := h.2
              refine r_iload_n (pc := 181) E dX9_hire_181 rfl rfl ?_
              refine r_iadd (pc := 182) E dX9_hire_182 ?_
              refine r_iast (pc := 183) (n := 10) E ok_67 rfl h.1 dX9_hire_183 (fun s13 es13 => ?_)
              have h := h.2 s13 es13
              refine r_aload_n (pc := 184) E dX9_hire_184 rfl rfl ?_
              refine r_dup (pc := 185) E dX9_hire_185 rfl ?_
              refine r_get (pc := 186) (j := 8) E ok_63 kc_9 rfl q_784 (svI rfl) dX9_hire_186 ?_
              refine r_aload_n (pc := 189) E dX9_hire_189 rfl rfl ?_
              refine r_get (pc := 190) (j := 24) (v := .ref (xa X 75)) E ok_63 kc_9 rfl q_800 rfl dX9_hire_190 ?_
              refine r_aload_n (pc := 193) E dX9_hire_193 rfl rfl ?_
              refine r_get (pc := 194) (j := 18) E ok_63 kc_9 rfl q_794 (svI rfl) dX9_hire_194 ?_
              refine r_iald (pc := 197) (n := 30) E ok_75 rfl h.1 dX9_hire_197 ?_
              have h := h.2
              refine r_iadd (pc := 198) E dX9_hire_198 ?_
              refine r_put (pc := 199) (j := 8) E ok_63 kc_9 rfl q_784 rfl rfl rfl dX9_hire_199 (fun s14 es14 => ?_)
              have h := h s14 es14
              refine r_aload_n (pc := 202) E dX9_hire_202 rfl rfl ?_
              refine r_dup (pc := 203) E dX9_hire_203 rfl ?_
              refine r_get (pc := 204) (j := 18) E ok_63 kc_9 rfl q_794 (svI rfl) dX9_hire_204 ?_
              refine r_iconst (pc := 207) (v := 1) E dX9_hire_207 (by decide) ?_
              refine r_iadd (pc := 208) E dX9_hire_208 ?_
              refine r_put (pc := 209) (j := 18) E ok_63 kc_9 rfl q_794 rfl rfl rfl dX9_hire_209 (fun s15 es15 => ?_)
              have h := h s15 es15
              refine r_aload_n (pc := 212) E dX9_hire_212 rfl rfl ?_
              refine r_dup (pc := 213) E dX9_hire_213 rfl ?_
              refine r_get (pc := 214) (j := 19) E ok_63 kc_9 rfl q_795 (svI rfl) dX9_hire_214 ?_
              refine r_iconst (pc := 217) (v := 1) E dX9_hire_217 (by decide) ?_
              refine r_iadd (pc := 218) E dX9_hire_218 ?_
              refine r_put (pc := 219) (j := 19) E ok_63 kc_9 rfl q_795 rfl rfl rfl dX9_hire_219 (fun s16 es16 => ?_)
              have h := h s16 es16
              refine r_aload_n (pc := 222) E dX9_hire_222 rfl rfl ?_
              refine r_get (pc := 223) (j := 19) E ok_63 kc_9 rfl q_795 (svI rfl) dX9_hire_223 ?_
              refine r_iconst (pc := 226) (v := 1) E dX9_hire_226 (by decide) ?_
              refine r_isub (pc := 227) E dX9_hire_227 ?_
              exact r_iret (pc := 228) E hr dX9_hire_228 h
            · have h := h.2 c6
              refine r_ldc (pc := 73) (v := (-1000003)) E q_952 dX9_hire_73 ?_
              exact r_iret (pc := 75) E hr dX9_hire_75 h
        · have h := h.2 c4
          refine r_ldc (pc := 51) (v := (-1000002)) E q_963 dX9_hire_51 ?_
          exact r_iret (pc := 53) E hr dX9_hire_53 h
      · have h := h.2 c3
        refine r_ldc (pc := 37) (v := (-1000001)) E q_951 dX9_hire_37 ?_
        exact r_iret (pc := 39) E hr dX9_hire_39 h

/-! ChairFrontModel.slotOf -/
def rm_X9_slotOf : Room := { frames := 0, cells := 0, slots := 0, locals := 0 }
theorem ci_X9_slotOf : CI yX9_slotOf RX9 cX9_slotOf 4 (some .int) 1 := ⟨q_993, q_38, q_65, q_994, by decide +kernel⟩
def w_X9_slotOf_L5 (v1 : Int32) (K : ST → Int32 → Prop) (Q : Int32 → ST → Prop) : Nat → ST → Int32 → Int32 → Prop
  | 0, _, _, _ => False
  | n + 1, s0, v2, v3 => (((s0 63 18) ≤ v3 → (K s0 v2)) ∧ (¬ ((s0 63 18) ≤ v3) → (vp_in v3 30 ∧ (((¬ (s0 71 v3.toNatClampNeg) = v1 → (∀ x1 : Int32, x1 = v3 + 1 → (w_X9_slotOf_L5 v1 K Q n s0 v2 x1))) ∧ ((s0 71 v3.toNatClampNeg) = v1 → (∀ x2 : Int32, x2 = v3 + 1 → (w_X9_slotOf_L5 v1 K Q n s0 v3 x2))))))))
set_option maxRecDepth 100000 in
set_option maxHeartbeats 4000000 in
theorem t_X9_slotOf_L5 {p : Program} {l : Launch} {e : Env} {s : State} {m : MethodId} {args : Array Value} {below : List Frame} {meth : Method} {c : Code} {X : XT} (E : Ev p rm_X9_slotOf s m args meth c X (xA X) 4 0 0 cX9_slotOf RX9) (hr : meth.sig.returnType = (some .int)) {v1 : Int32} {K : ST → Int32 → Prop} {Q : Int32 → ST → Prop} (hK : ∀ (s0 : ST) (v2 : Int32), K s0 v2 → G p l e rm_X9_slotOf s m args below meth c X (xA X) 4 0 0 (MQ below (va_Qi Q (Bw X) (xA X)) args s 0 0 (xA X)) s0 35 [none, none, some (.int v2), none] []) : ∀ (n : Nat) (s0 : ST) (v2 : Int32) (v3 : Int32), w_X9_slotOf_L5 v1 K Q n s0 v2 v3 → G p l e rm_X9_slotOf s m args below meth c X (xA X) 4 0 0 (MQ below (va_Qi Q (Bw X) (xA X)) args s 0 0 (xA X)) s0 5 [some (.ref (xa X 63)), some (.int v1), some (.int v2), some (.int v3)] [] := by
  intro n
  induction n with
  | zero => intro s0 v2 v3 h; exact h.elim
  | succ n ih =>
    intro s0 v2 v3 h
    refine r_iload_n (pc := 5) E dX9_slotOf_5 rfl rfl ?_
    refine r_aload_n (pc := 6) E dX9_slotOf_6 rfl rfl ?_
    refine r_get (pc := 7) (j := 18) E ok_63 kc_9 rfl q_794 (svI rfl) dX9_slotOf_7 ?_
    refine r_icmp_ge (pc := 10) (tgt := 35) E dX9_slotOf_10 (by decide) (fun c1 => ?_) (fun c1 => ?_)
    · have h := h.1 c1
      exact r_forget (le_n (le_n (le_s (le_n le_0)))) (hK _ _ h)
    · have h := h.2 c1
      refine r_aload_n (pc := 13) E dX9_slotOf_13 rfl rfl ?_
      refine r_get (pc := 14) (j := 20) (v := .ref (xa X 71)) E ok_63 kc_9 rfl q_796 rfl dX9_slotOf_14 ?_
      refine r_iload_n (pc := 17) E dX9_slotOf_17 rfl rfl ?_
      refine r_iald (pc := 18) (n := 30) E ok_71 rfl h.1 dX9_slotOf_18 ?_
      have h := h.2
      refine r_iload_n (pc := 19) E dX9_slotOf_19 rfl rfl ?_
      refine r_icmp_ne (pc := 20) (tgt := 27) E dX9_slotOf_20 (by decide) (fun c2 => ?_) (fun c2 => ?_)
      · have h := h.1 c2
        refine r_iload_n (pc := 27) E dX9_slotOf_27 rfl rfl ?_
        refine r_istore_n (pc := 28) (lv' := [some (.ref (xa X 63)), some (.int v1), some (.int v2), some (.int v3)]) E dX9_slotOf_28 rfl rfl rfl rfl ?_
        obtain ⟨x1, ex1⟩ : ∃ z : Int32, z = v3 + 1 := ⟨_, rfl⟩
        have h := h x1 ex1
        refine r_iinc (pc := 29) (v := 1) (lv' := [some (.ref (xa X 63)), some (.int v1), some (.int v2), some (.int x1)]) E dX9_slotOf_29 rfl (by decide) rfl rfl (by rw [ex1]; rfl) ?_
        refine r_goto (pc := 32) (tgt := 5) E dX9_slotOf_32 (by decide) ?_
        exact r_forget (le_s (le_s (le_s (le_s le_0)))) (ih _ _ _ h)
      · have h := h.2 c2
        refine r_iload_n (pc := 23) E dX9_slotOf_23 rfl rfl ?_
        refine r_goto (pc := 24) (tgt := 28) E dX9_slotOf_24 (by decide) ?_
        refine r_istore_n (pc := 28) (lv' := [some (.ref (xa X 63)), some (.int v1), some (.int v3), some (.int v3)]) E dX9_slotOf_28 rfl rfl rfl rfl ?_
        obtain ⟨x2, ex2⟩ : ∃ z : Int32, z = v3 + 1 := ⟨_, rfl⟩
        have h := h x2 ex2
        refine r_iinc (pc := 29) (v := 1) (lv' := [some (.ref (xa X 63)), some (.int v1), some (.int v3), some (.int x2)]) E dX9_slotOf_29 rfl (by decide) rfl rfl (by rw [ex2]; rfl) ?_
        refine r_goto (pc := 32) (tgt := 5) E dX9_slotOf_32 (by decide) ?_
        exact r_forget (le_s (le_s (le_s (le_s le_0)))) (ih _ _ _ h)

def w_X9_slotOf (s0 : ST) (a1 : Int32) (Q : Int32 → ST → Prop) : Prop := ∃ n1 : Nat, w_X9_slotOf_L5 a1 (fun (s1 : ST) (x3 : Int32) => Q x3 s1) Q n1 s0 (-1000000) 0
set_option maxRecDepth 100000 in
set_option maxHeartbeats 4000000 in
theorem c_X9_slotOf {l : Launch} (X : XT) (s0 : ST) (a1 : Int32) (Q : Int32 → ST → Prop) (h : w_X9_slotOf s0 a1 Q) : MetI l yX9_slotOf (wS yX9_slotOf cX9_slotOf 4 (some .int)) rm_X9_slotOf X s0 [.ref (xa X 63), .int a1] Q := by
  refine metG (own := RX9) (k := 2) (lv0 := [some (.ref (xa X 63)), some (.int a1), none, none]) (by decide) rfl rfl rfl ?_
  intro p e s m args below meth c E hr
  refine r_ldc (pc := 0) (v := (-1000000)) E q_957 dX9_slotOf_0 ?_
  refine r_istore_n (pc := 2) (lv' := [some (.ref (xa X 63)), some (.int a1), some (.int (-1000000)), none]) E dX9_slotOf_2 rfl rfl rfl rfl ?_
  refine r_iconst (pc := 3) (v := 0) E dX9_slotOf_3 (by decide) ?_
  refine r_istore_n (pc := 4) (lv' := [some (.ref (xa X 63)), some (.int a1), some (.int (-1000000)), some (.int 0)]) E dX9_slotOf_4 rfl rfl rfl rfl ?_
  obtain ⟨n1, h⟩ := h
  refine r_forget (le_s (le_s (le_s (le_s le_0)))) (t_X9_slotOf_L5 E hr ?_ n1 _ _ _ h)
  intro s1 x3 h
  refine r_iload_n (pc := 35) E dX9_slotOf_35 rfl rfl ?_
  exact r_iret (pc := 36) E hr dX9_slotOf_36 h

/-! ChairFrontModel.shift -/
def rm_X9_shift : Room := { frames := 2, cells := 0, slots := 0, locals := 46 }
theorem ci_X9_shift : CI yX9_shift RX9 cX9_shift 4 (some .int) 2 := ⟨q_988, q_989, q_65, q_990, by decide +kernel⟩
def w_X9_shift_J71 (Q : Int32 → ST → Prop) (s0 : ST) (v2 : Int32) (v3 : Int32) : Prop := vp_in v2 10 ∧ (vp_in v3 30 ∧ ((((s0 73 v3.toNatClampNeg) ≤ (s0 66 v2.toNatClampNeg) → (vp_in v3 30 ∧ (vp_in (s0 72 v3.toNatClampNeg) 10 ∧ (vp_in v3 30 ∧ (vp_in (s0 72 v3.toNatClampNeg) 10 ∧ (∀ s4 : ST, s4 = up s0 66 (s0 72 v3.toNatClampNeg).toNatClampNeg ((s0 66 (s0 72 v3.toNatClampNeg).toNatClampNeg) + (s0 73 v3.toNatClampNeg)) → (vp_in v3 30 ∧ (vp_in (s4 72 v3.toNatClampNeg) 10 ∧ (vp_in v3 30 ∧ (vp_in (s4 72 v3.toNatClampNeg) 10 ∧ (∀ s5 : ST, s5 = up s4 67 (s4 72 v3.toNatClampNeg).toNatClampNeg ((s4 67 (s4 72 v3.toNatClampNeg).toNatClampNeg) - (s4 73 v3.toNatClampNeg)) → (vp_in v2 10 ∧ (vp_in v3 30 ∧ (vp_in v2 10 ∧ (∀ s6 : ST, s6 = up s5 66 v2.toNatClampNeg ((s5 66 v2.toNatClampNeg) - (s5 73 v3.toNatClampNeg)) → (vp_in v2 10 ∧ (vp_in v3 30 ∧ (vp_in v2 10 ∧ (∀ s7 : ST, s7 = up s6 67 v2.toNatClampNeg ((s6 67 v2.toNatClampNeg) + (s6 73 v3.toNatClampNeg)) → (vp_in v3 30 ∧ (∀ s8 : ST, s8 = up s7 72 v3.toNatClampNeg v2 → (Q 1 s8)))))))))))))))))))))) ∧ (¬ ((s0 73 v3.toNatClampNeg) ≤ (s0 66 v2.toNatClampNeg)) → (Q (-1000003) s0)))))
set_option maxRecDepth 100000 in
set_option maxHeartbeats 4000000 in
theorem t_X9_shift_J71 {p : Program} {l : Launch} {e : Env} {s : State} {m : MethodId} {args : Array Value} {below : List Frame} {meth : Method} {c : Code} {X : XT} (E : Ev p rm_X9_shift s m args meth c X (xA X) 4 0 0 cX9_shift RX9) (hr : meth.sig.returnType = (some .int)) {Q : Int32 → ST → Prop} (s0 : ST) (v2 : Int32) (v3 : Int32) (h : w_X9_shift_J71 Q s0 v2 v3) : G p l e rm_X9_shift s m args below meth c X (xA X) 4 0 0 (MQ below (va_Qi Q (Bw X) (xA X)) args s 0 0 (xA X)) s0 71 [some (.ref (xa X 63)), none, some (.int v2), some (.int v3)] [] := by
  refine r_aload_n (pc := 71) E dX9_shift_71 rfl rfl ?_
  refine r_get (pc := 72) (j := 13) (v := .ref (xa X 66)) E ok_63 kc_9 rfl q_789 rfl dX9_shift_72 ?_
  refine r_iload_n (pc := 75) E dX9_shift_75 rfl rfl ?_
  refine r_iald (pc := 76) (n := 10) E ok_66 rfl h.1 dX9_shift_76 ?_
  have h := h.2
  refine r_aload_n (pc := 77) E dX9_shift_77 rfl rfl ?_
  refine r_get (pc := 78) (j := 22) (v := .ref (xa X 73)) E ok_63 kc_9 rfl q_798 rfl dX9_shift_78 ?_
  refine r_iload_n (pc := 81) E dX9_shift_81 rfl rfl ?_
  refine r_iald (pc := 82) (n := 30) E ok_73 rfl h.1 dX9_shift_82 ?_
  have h := h.2
  refine r_icmp_ge (pc := 83) (tgt := 89) E dX9_shift_83 (by decide) (fun c6 => ?_) (fun c6 => ?_)
  · have h := h.1 c6
    refine r_aload_n (pc := 89) E dX9_shift_89 rfl rfl ?_
    refine r_get (pc := 90) (j := 13) (v := .ref (xa X 66)) E ok_63 kc_9 rfl q_789 rfl dX9_shift_90 ?_
    refine r_aload_n (pc := 93) E dX9_shift_93 rfl rfl ?_
    refine r_get (pc := 94) (j := 21) (v := .ref (xa X 72)) E ok_63 kc_9 rfl q_797 rfl dX9_shift_94 ?_
    refine r_iload_n (pc := 97) E dX9_shift_97 rfl rfl ?_
    refine r_iald (pc := 98) (n := 30) E ok_72 rfl h.1 dX9_shift_98 ?_
    have h := h.2
    refine r_dup2 (pc := 99) E dX9_shift_99 rfl rfl ?_
    refine r_iald (pc := 100) (n := 10) E ok_66 rfl h.1 dX9_shift_100 ?_
    have h := h.2
    refine r_aload_n (pc := 101) E dX9_shift_101 rfl rfl ?_
    refine r_get (pc := 102) (j := 22) (v := .ref (xa X 73)) E ok_63 kc_9 rfl q_798 rfl dX9_shift_102 ?_
    refine r_iload_n (pc := 105) E dX9_shift_105 rfl rfl ?_
    refine r_iald (pc := 106) (n := 30) E ok_73 rfl h.1 dX9_shift_106 ?_
    have h := h.2
    refine r_iadd (pc := 107) E dX9_shift_107 ?_
    refine r_iast (pc := 108) (n := 10) E ok_66 rfl h.1 dX9_shift_108 (fun s4 es4 => ?_)
    have h := h.2 s4 es4
    refine r_aload_n (pc := 109) E dX9_shift_109 rfl rfl ?_
    refine r_get (pc := 110) (j := 14) (v := .ref (xa X 67)) E ok_63 kc_9 rfl q_790 rfl dX9_shift_110 ?_
    refine r_aload_n (pc := 113) E dX9_shift_113 rfl rfl ?_
    refine r_get (pc := 114) (j := 21) (v := .ref (xa X 72)) E ok_63 kc_9 rfl q_797 rfl dX9_shift_114 ?_
    refine r_iload_n (pc := 117) E dX9_shift_117 rfl rfl ?_
    refine r_iald (pc := 118) (n := 30) E ok_72 rfl h.1 dX9_shift_118 ?_
    have h := h.2
    refine r_dup2 (pc := 119) E dX9_shift_119 rfl rfl ?_
    refine r_iald (pc := 120) (n := 10) E ok_67 rfl h.1 dX9_shift_120 ?_
    have h := h.2
    refine r_aload_n (pc := 121) E dX9_shift_121 rfl rfl ?_
    refine r_get (pc := 122) (j := 22) (v := .ref (xa X 73)) E ok_63 kc_9 rfl q_798 rfl dX9_shift_122 ?_
    refine r_iload_n (pc := 125) E dX9_shift_125 rfl rfl ?_
    refine r_iald (pc := 126) (n := 30) E ok_73 rfl h.1 dX9_shift_126 ?_
    have h := h.2
    refine r_isub (pc := 127) E dX9_shift_127 ?_
    refine r_iast (pc := 128) (n := 10) E ok_67 rfl h.1 dX9_shift_128 (fun s5 es5 => ?_)
    have h := h.2 s5 es5
    refine r_aload_n (pc := 129) E dX9_shift_129 rfl rfl ?_
    refine r_get (pc := 130) (j := 13) (v := .ref (xa X 66)) E ok_63 kc_9 rfl q_789 rfl dX9_shift_130 ?_
    refine r_iload_n (pc := 133) E dX9_shift_133 rfl rfl ?_
    refine r_dup2 (pc := 134) E dX9_shift_134 rfl rfl ?_
    refine r_iald (pc := 135) (n := 10) E ok_66 rfl h.1 dX9_shift_135 ?_
    have h := h.2
    refine r_aload_n (pc := 136) E dX9_shift_136 rfl rfl ?_
    refine r_get (pc := 137) (j := 22) (v := .ref (xa X 73)) E ok_63 kc_9 rfl q_798 rfl dX9_shift_137 ?_
    refine r_iload_n (pc := 140) E dX9_shift_140 rfl rfl ?_
    refine r_iald (pc := 141) (n := 30) E ok_73 rfl h.1 dX9_shift_141 ?_
    have h := h.2
    refine r_isub (pc := 142) E dX9_shift_142 ?_
    refine r_iast (pc := 143) (n := 10) E ok_66 rfl h.1 dX9_shift_143 (fun s6 es6 => ?_)
    have h := h.2 s6 es6
    refine r_aload_n (pc := 144) E dX9_shift_144 rfl rfl ?_
    refine r_get (pc := 145) (j := 14) (v := .ref (xa X 67)) E ok_63 kc_9 rfl q_790 rfl dX9_shift_145 ?_
    refine r_iload_n (pc := 148) E dX9_shift_148 rfl rfl ?_
    refine r_dup2 (pc := 149) E dX9_shift_149 rfl rfl ?_
    refine r_iald (pc := 150) (n := 10) E ok_67 rfl h.1 dX9_shift_150 ?_
    have h := h.2
    refine r_aload_n (pc := 151) E dX9_shift_151 rfl rfl ?_
    refine r_get (pc := 152) (j := 22) (v := .ref (xa X 73)) E ok_63 kc_9 rfl q_798 rfl dX9_shift_152 ?_
    refine r_iload_n (pc := 155) E dX9_shift_155 rfl rfl ?_
    refine r_iald (pc := 156) (n := 30) E ok_73 rfl h.1 dX9_shift_156 ?_
    have h := h.2
    refine r_iadd (pc := 157) E dX9_shift_157 ?_
    refine r_iast (pc := 158) (n := 10) E ok_67 rfl h.1 dX9_shift_158 (fun s7 es7 => ?_)
    have h := h.2 s7 es7
    refine r_aload_n (pc := 159) E dX9_shift_159 rfl rfl ?_
    refine r_get (pc := 160) (j := 21) (v := .ref (xa X 72)) E ok_63 kc_9 rfl q_797 rfl dX9_shift_160 ?_
    refine r_iload_n (pc := 163) E dX9_shift_163 rfl rfl ?_
    refine r_iload_n (pc := 164) E dX9_shift_164 rfl rfl ?_
    refine r_iast (pc := 165) (n := 30) E ok_72 rfl h.1 dX9_shift_165 (fun s8 es8 => ?_)
    have h := h.2 s8 es8
    refine r_iconst (pc := 166) (v := 1) E dX9_shift_166 (by decide) ?_
    exact r_iret (pc := 167) E hr dX9_shift_167 h
  · have h := h.2 c6
    refine r_ldc (pc := 86) (v := (-1000003)) E q_952 dX9_shift_86 ?_
    exact r_iret (pc := 88) E hr dX9_shift_88 h

def w_X9_shift (s0 : ST) (a1 : Int32) (a2 : Int32) (Q : Int32 → ST → Prop) : Prop := ∀ s1 : ST, s1 = up s0 63 0 0 → (w_X9_slotOf s1 a1 (fun r1 s2 => ((r1 = (-1000000) → (Q (-1000001) s2)) ∧ (¬ (r1 = (-1000000)) → (w_X9_isStretch s2 a2 (fun r2 s3 => ((r2 = 0 → (Q (-1000001) s3)) ∧ (¬ (r2 = 0) → (vp_in r1 30 ∧ (((¬ (s3 72 r1.toNatClampNeg) = a2 → ((((s3 63 27) = 0 → (Q (-1000002) s3)) ∧ (¬ ((s3 63 27) = 0) → (((¬ (s3 63 27) = 1 → (w_X9_shift_J71 Q s3 a2 r1)) ∧ ((s3 63 27) = 1 → (vp_in a2 10 ∧ (vp_in r1 30 ∧ ((((s3 65 a2.toNatClampNeg) = (s3 77 r1.toNatClampNeg) → (w_X9_shift_J71 Q s3 a2 r1)) ∧ (¬ ((s3 65 a2.toNatClampNeg) = (s3 77 r1.toNatClampNeg)) → (Q (-1000002) s3))))))))))))) ∧ ((s3 72 r1.toNatClampNeg) = a2 → (Q (-1000001) s3)))))))))))))
set_option maxRecDepth 100000 in
set_option maxHeartbeats 4000000 in
theorem c_X9_shift {l : Launch} (X : XT) (s0 : ST) (a1 : Int32) (a2 : Int32) (Q : Int32 → ST → Prop) (h : w_X9_shift s0 a1 a2 Q) : MetI l yX9_shift (wS yX9_shift cX9_shift 4 (some .int)) rm_X9_shift X s0 [.ref (xa X 63), .int a1, .int a2] Q := by
  refine metG (own := RX9) (k := 1) (lv0 := [some (.ref (xa X 63)), some (.int a1), some (.int a2), none]) (by decide) rfl rfl rfl ?_
  intro p e s m args below meth c E hr
  refine r_aload_n (pc := 0) E dX9_shift_0 rfl rfl ?_
  refine r_iconst (pc := 1) (v := 0) E dX9_shift_1 (by decide) ?_
  refine r_put (pc := 2) (j := 0) E ok_63 kc_9 rfl q_776 rfl rfl rfl dX9_shift_2 (fun s1 es1 => ?_)
  have h := h s1 es1
  refine r_aload_n (pc := 5) E dX9_shift_5 rfl rfl ?_
  refine r_iload_n (pc := 6) E dX9_shift_6 rfl rfl ?_
  refine afterI (pc := 7) E (fun H locs ls hP hS hl => runV (As := [.int a1]) (rest := []) E (c_X9_slotOf X _ _ _  h) ok_63 kc_9.1 ci_X9_slotOf q_991 rfl rfl rfl rfl dX9_shift_7 hP hS hl) (fun r1 s2 h => ?_)
  refine r_istore_n (pc := 10) (lv' := [some (.ref (xa X 63)), some (.int a1), some (.int a2), some (.int r1)]) E dX9_shift_10 rfl rfl rfl rfl ?_
  refine r_iload_n (pc := 11) E dX9_shift_11 rfl rfl ?_
  refine r_ldc (pc := 12) (v := (-1000000)) E q_957 dX9_shift_12 ?_
  refine r_icmp_eq (pc := 14) (tgt := 35) E dX9_shift_14 (by decide) (fun c1 => ?_) (fun c1 => ?_)
  · have h := h.1 c1
    refine r_ldc (pc := 35) (v := (-1000001)) E q_951 dX9_shift_35 ?_
    exact r_iret (pc := 37) E hr dX9_shift_37 h
  · have h := h.2 c1
    refine r_aload_n (pc := 17) E dX9_shift_17 rfl rfl ?_
    refine r_iload_n (pc := 18) E dX9_shift_18 rfl rfl ?_
    refine afterI (pc := 19) E (fun H locs ls hP hS hl => runV (As := [.int a2]) (rest := []) E (c_X9_isStretch X _ _ _  h) ok_63 kc_9.1 ci_X9_isStretch q_958 rfl rfl rfl rfl dX9_shift_19 hP hS hl) (fun r2 s3 h => ?_)
    refine r_if_eq (pc := 22) (tgt := 35) E dX9_shift_22 (by decide) (fun c2 => ?_) (fun c2 => ?_)
    · have h := h.1 c2
      refine r_ldc (pc := 35) (v := (-1000001)) E q_951 dX9_shift_35 ?_
      exact r_iret (pc := 37) E hr dX9_shift_37 h
    · have h := h.2 c2
      refine r_aload_n (pc := 25) E dX9_shift_25 rfl rfl ?_
      refine r_get (pc := 26) (j := 21) (v := .ref (xa X 72)) E ok_63 kc_9 rfl q_797 rfl dX9_shift_26 ?_
      refine r_iload_n (pc := 29) E dX9_shift_29 rfl rfl ?_
      refine r_iald (pc := 30) (n := 30) E ok_72 rfl h.1 dX9_shift_30 ?_
      have h := h.2
      refine r_iload_n (pc := 31) E dX9_shift_31 rfl rfl ?_
      refine r_icmp_ne (pc := 32) (tgt := 38) E dX9_shift_32 (by decide) (fun c3 => ?_) (fun c3 => ?_)
      · have h := h.1 c3
        refine r_aload_n (pc := 38) E dX9_shift_38 rfl rfl ?_
        refine r_get (pc := 39) (j := 27) E ok_63 kc_9 rfl q_803 (svI rfl) dX9_shift_39 ?_
        refine r_if_eq (pc := 42) (tgt := 68) E dX9_shift_42 (by decide) (fun c4 => ?_) (fun c4 => ?_)
        · have h := h.1 c4
          refine r_ldc (pc := 68) (v := (-1000002)) E q_963 dX9_shift_68 ?_
          exact r_iret (pc := 70) E hr dX9_shift_70 h
        · have h := h.2 c4
          refine r_aload_n (pc := 45) E dX9_shift_45 rfl rfl ?_
          refine r_get (pc := 46) (j := 27) E ok_63 kc_9 rfl q_803 (svI rfl) dX9_shift_46 ?_
          refine r_iconst (pc := 49) (v := 1) E dX9_shift_49 (by decide) ?_
          refine r_icmp_ne (pc := 50) (tgt := 71) E dX9_shift_50 (by decide) (fun c5 => ?_) (fun c5 => ?_)
          · have h := h.1 c5
            exact r_forget (le_s (le_n (le_s (le_s le_0)))) (t_X9_shift_J71 E hr _ _ _ h)
          · have h := h.2 c5
            refine r_aload_n (pc := 53) E dX9_shift_53 rfl rfl ?_
            refine r_get (pc := 54) (j := 12) (v := .ref (xa X 65)) E ok_63 kc_9 rfl q_788 rfl dX9_shift_54 ?_
            refine r_iload_n (pc := 57) E dX9_shift_57 rfl rfl ?_
            refine r_iald (pc := 58) (n := 10) E ok_65 rfl h.1 dX9_shift_58 ?_
            have h := h.2
            refine r_aload_n (pc := 59) E dX9_shift_59 rfl rfl ?_
            refine r_get (pc := 60) (j := 26) (v := .ref (xa X 77)) E ok_63 kc_9 rfl q_802 rfl dX9_shift_60 ?_
            refine r_iload_n (pc := 63) E dX9_shift_63 rfl rfl ?_
            refine r_iald (pc := 64) (n := 30) E ok_77 rfl h.1 dX9_shift_64 ?_
            have h := h.2
            refine r_icmp_eq (pc := 65) (tgt := 71) E dX9_shift_65 (by decide) (fun c7 => ?_) (fun c7 => ?_)
            · have h := h.1 c7
              exact r_forget (le_s (le_n (le_s (le_s le_0)))) (t_X9_shift_J71 E hr _ _ _ h)
            · have h := h.2 c7
              refine r_ldc (pc := 68) (v := (-1000002)) E q_963 dX9_shift_68 ?_
              exact r_iret (pc := 70) E hr dX9_shift_70 h
      · have h := h.2 c3
        refine r_ldc (pc := 35) (v := (-1000001)) E q_951 dX9_shift_35 ?_
        exact r_iret (pc := 37) E hr dX9_shift_37 h

/-! ChairFrontModel.ticket -/
def rm_X9_ticket : Room := { frames := 1, cells := 0, slots := 0, locals := 25 }
theorem ci_X9_ticket : CI yX9_ticket RX9 cX9_ticket 4 (some .int) 2 := ⟨q_996, q_997, q_65, q_998, by decide +kernel⟩
def w_X9_ticket (s0 : ST) (a1 : Int32) (a2 : Int32) (Q : Int32 → ST → Prop) : Prop := ∀ s1 : ST, s1 = up s0 63 0 0 → (w_X9_slotOf s1 a1 (fun r1 s2 => ((r1 = (-1000000) → (Q (-1000001) s2)) ∧ (¬ (r1 = (-1000000)) → (w_X9_in s2 ((a2 : Int32).toInt64) 0 3 (fun r2 s3 => ((¬ r2 = 0 → (((¬ a2 = 0 → (((¬ a2 = 1 → (((¬ a2 = 2 → (vp_in r1 30 ∧ (Q (s3 75 r1.toNatClampNeg) s3))) ∧ (a2 = 2 → (vp_in r1 30 ∧ (Q (s3 74 r1.toNatClampNeg) s3)))))) ∧ (a2 = 1 → (vp_in r1 30 ∧ (Q (s3 73 r1.toNatClampNeg) s3)))))) ∧ (a2 = 0 → (vp_in r1 30 ∧ (Q (s3 72 r1.toNatClampNeg) s3)))))) ∧ (r2 = 0 → (Q (-1000001) s3)))))))))
set_option maxRecDepth 100000 in
set_option maxHeartbeats 4000000 in
theorem c_X9_ticket {l : Launch} (X : XT) (s0 : ST) (a1 : Int32) (a2 : Int32) (Q : Int32 → ST → Prop) (h : w_X9_ticket s0 a1 a2 Q) : MetI l yX9_ticket (wS yX9_ticket cX9_ticket 4 (some .int)) rm_X9_ticket X s0 [.ref (xa X 63), .int a1, .int a2] Q := by
  refine metG (own := RX9) (k := 1) (lv0 := [some (.ref (xa X 63)), some (.int a1), some (.int a2), none]) (by decide) rfl rfl rfl ?_
  intro p e s m args below meth c E hr
  refine r_aload_n (pc := 0) E dX9_ticket_0 rfl rfl ?_
  refine r_iconst (pc := 1) (v := 0) E dX9_ticket_1 (by decide) ?_
  refine r_put (pc := 2) (j := 0) E ok_63 kc_9 rfl q_776 rfl rfl rfl dX9_ticket_2 (fun s1 es1 => ?_)
  have h := h s1 es1
  refine r_aload_n (pc := 5) E dX9_ticket_5 rfl rfl ?_
  refine r_iload_n (pc := 6) E dX9_ticket_6 rfl rfl ?_
  refine afterI (pc := 7) E (fun H locs ls hP hS hl => runV (As := [.int a1]) (rest := []) E (c_X9_slotOf X _ _ _  h) ok_63 kc_9.1 ci_X9_slotOf q_991 rfl rfl rfl rfl dX9_ticket_7 hP hS hl) (fun r1 s2 h => ?_)
  refine r_istore_n (pc := 10) (lv' := [some (.ref (xa X 63)), some (.int a1), some (.int a2), some (.int r1)]) E dX9_ticket_10 rfl rfl rfl rfl ?_
  refine r_iload_n (pc := 11) E dX9_ticket_11 rfl rfl ?_
  refine r_ldc (pc := 12) (v := (-1000000)) E q_957 dX9_ticket_12 ?_
  refine r_icmp_eq (pc := 14) (tgt := 29) E dX9_ticket_14 (by decide) (fun c1 => ?_) (fun c1 => ?_)
  · have h := h.1 c1
    refine r_ldc (pc := 29) (v := (-1000001)) E q_951 dX9_ticket_29 ?_
    exact r_iret (pc := 31) E hr dX9_ticket_31 h
  · have h := h.2 c1
    refine r_iload_n (pc := 17) E dX9_ticket_17 rfl rfl ?_
    refine r_i2l (pc := 18) E dX9_ticket_18 ?_
    refine r_lconst (pc := 19) (v := 0) E dX9_ticket_19 rfl ?_
    refine r_ldc2 (pc := 20) (v := 3) E q_950 dX9_ticket_20 ?_
    refine afterI (pc := 23) E (fun H locs ls hP hS hl => runS (As := [.long ((a2 : Int32).toInt64), .long 0, .long 3]) (rest := []) E (c_X9_in X _ _ _ _ _  h) cs_X9_in q_947 rfl rfl rfl rfl dX9_ticket_23 hP hS hl) (fun r2 s3 h => ?_)
    refine r_if_ne (pc := 26) (tgt := 32) E dX9_ticket_26 (by decide) (fun c2 => ?_) (fun c2 => ?_)
    · have h := h.1 c2
      refine r_iload_n (pc := 32) E dX9_ticket_32 rfl rfl ?_
      refine r_if_ne (pc := 33) (tgt := 45) E dX9_ticket_33 (by decide) (fun c3 => ?_) (fun c3 => ?_)
      · have h := h.1 c3
        refine r_iload_n (pc := 45) E dX9_ticket_45 rfl rfl ?_
        refine r_iconst (pc := 46) (v := 1) E dX9_ticket_46 (by decide) ?_
        refine r_icmp_ne (pc := 47) (tgt := 59) E dX9_ticket_47 (by decide) (fun c4 => ?_) (fun c4 => ?_)
        · have h := h.1 c4
          refine r_iload_n (pc := 59) E dX9_ticket_59 rfl rfl ?_
          refine r_iconst (pc := 60) (v := 2) E dX9_ticket_60 (by decide) ?_
          refine r_icmp_ne (pc := 61) (tgt := 73) E dX9_ticket_61 (by decide) (fun c5 => ?_) (fun c5 => ?_)
          · have h := h.1 c5
            refine r_aload_n (pc := 73) E dX9_ticket_73 rfl rfl ?_
            refine r_get (pc := 74) (j := 24) (v := .ref (xa X 75)) E ok_63 kc_9 rfl q_800 rfl dX9_ticket_74 ?_
            refine r_iload_n (pc := 77) E dX9_ticket_77 rfl rfl ?_
            refine r_iald (pc := 78) (n := 30) E ok_75 rfl h.1 dX9_ticket_78 ?_
            have h := h.2
            exact r_iret (pc := 79) E hr dX9_ticket_79 h
          · have h := h.2 c5
            refine r_aload_n (pc := 64) E dX9_ticket_64 rfl rfl ?_
            refine r_get (pc := 65) (j := 23) (v := .ref (xa X 74)) E ok_63 kc_9 rfl q_799 rfl dX9_ticket_65 ?_
            refine r_iload_n (pc := 68) E dX9_ticket_68 rfl rfl ?_
            refine r_iald (pc := 69) (n := 30) E ok_74 rfl h.1 dX9_ticket_69 ?_
            have h := h.2
            refine r_goto (pc := 70) (tgt := 79) E dX9_ticket_70 (by decide) ?_
            exact r_iret (pc := 79) E hr dX9_ticket_79 h
        · have h := h.2 c4
          refine r_aload_n (pc := 50) E dX9_ticket_50 rfl rfl ?_
          refine r_get (pc := 51) (j := 22) (v := .ref (xa X 73)) E ok_63 kc_9 rfl q_798 rfl dX9_ticket_51 ?_
          refine r_iload_n (pc := 54) E dX9_ticket_54 rfl rfl ?_
          refine r_iald (pc := 55) (n := 30) E ok_73 rfl h.1 dX9_ticket_55 ?_
          have h := h.2
          refine r_goto (pc := 56) (tgt := 79) E dX9_ticket_56 (by decide) ?_
          exact r_iret (pc := 79) E hr dX9_ticket_79 h
      · have h := h.2 c3
        refine r_aload_n (pc := 36) E dX9_ticket_36 rfl rfl ?_
        refine r_get (pc := 37) (j := 21) (v := .ref (xa X 72)) E ok_63 kc_9 rfl q_797 rfl dX9_ticket_37 ?_
        refine r_iload_n (pc := 40) E dX9_ticket_40 rfl rfl ?_
        refine r_iald (pc := 41) (n := 30) E ok_72 rfl h.1 dX9_ticket_41 ?_
        have h := h.2
        refine r_goto (pc := 42) (tgt := 79) E dX9_ticket_42 (by decide) ?_
        exact r_iret (pc := 79) E hr dX9_ticket_79 h
    · have h := h.2 c2
      refine r_ldc (pc := 29) (v := (-1000001)) E q_951 dX9_ticket_29 ?_
      exact r_iret (pc := 31) E hr dX9_ticket_31 h

/-! ChairFrontModel.end -/
def rm_X9_end : Room := { frames := 0, cells := 0, slots := 0, locals := 0 }
theorem ci_X9_end : CI yX9_end RX9 cX9_end 3 none 1 := ⟨q_1008, q_39, q_65, q_1009, by decide +kernel⟩
def w_X9_end_L52 (K : ST → Prop) (Q : ST → Prop) : Nat → ST → Int32 → Prop
  | 0, _, _ => False
  | n + 1, s0, v2 => (((s0 63 18) ≤ v2 → (K s0)) ∧ (¬ ((s0 63 18) ≤ v2) → (vp_in (v2 + 1) 30 ∧ (vp_in v2 30 ∧ (∀ s4 : ST, s4 = up s0 71 v2.toNatClampNeg (s0 71 (v2 + 1).toNatClampNeg) → (vp_in (v2 + 1) 30 ∧ (vp_in v2 30 ∧ (∀ s5 : ST, s5 = up s4 72 v2.toNatClampNeg (s4 72 (v2 + 1).toNatClampNeg) → (vp_in (v2 + 1) 30 ∧ (vp_in v2 30 ∧ (∀ s6 : ST, s6 = up s5 73 v2.toNatClampNeg (s5 73 (v2 + 1).toNatClampNeg) → (vp_in (v2 + 1) 30 ∧ (vp_in v2 30 ∧ (∀ s7 : ST, s7 = up s6 74 v2.toNatClampNeg (s6 74 (v2 + 1).toNatClampNeg) → (vp_in (v2 + 1) 30 ∧ (vp_in v2 30 ∧ (∀ s8 : ST, s8 = up s7 75 v2.toNatClampNeg (s7 75 (v2 + 1).toNatClampNeg) → (vp_in (v2 + 1) 30 ∧ (vp_in v2 30 ∧ (∀ s9 : ST, s9 = up s8 76 v2.toNatClampNeg (s8 76 (v2 + 1).toNatClampNeg) → (vp_in (v2 + 1) 30 ∧ (vp_in v2 30 ∧ (∀ s10 : ST, s10 = up s9 77 v2.toNatClampNeg (s9 77 (v2 + 1).toNatClampNeg) → (∀ x1 : Int32, x1 = v2 + 1 → (w_X9_end_L52 K Q n s10 x1)))))))))))))))))))))))))
set_option maxRecDepth 100000 in
set_option maxHeartbeats 4000000 in
theorem t_X9_end_L52 {p : Program} {l : Launch} {e : Env} {s : State} {m : MethodId} {args : Array Value} {below : List Frame} {meth : Method} {c : Code} {X : XT} (E : Ev p rm_X9_end s m args meth c X (xA X) 3 0 0 cX9_end RX9) (hr : meth.sig.returnType = none) {K : ST → Prop} {Q : ST → Prop} (hK : ∀ (s0 : ST), K s0 → G p l e rm_X9_end s m args below meth c X (xA X) 3 0 0 (MQ below (va_Qv Q (Bw X) (xA X)) args s 0 0 (xA X)) s0 164 [none, none, none] []) : ∀ (n : Nat) (s0 : ST) (v2 : Int32), w_X9_end_L52 K Q n s0 v2 → G p l e rm_X9_end s m args below meth c X (xA X) 3 0 0 (MQ below (va_Qv Q (Bw X) (xA X)) args s 0 0 (xA X)) s0 52 [some (.ref (xa X 63)), none, some (.int v2)] [] := by
  intro n
  induction n with
  | zero => intro s0 v2 h; exact h.elim
  | succ n ih =>
    intro s0 v2 h
    refine r_iload_n (pc := 52) E dX9_end_52 rfl rfl ?_
    refine r_aload_n (pc := 53) E dX9_end_53 rfl rfl ?_
    refine r_get (pc := 54) (j := 18) E ok_63 kc_9 rfl q_794 (svI rfl) dX9_end_54 ?_
    refine r_icmp_ge (pc := 57) (tgt := 164) E dX9_end_57 (by decide) (fun c1 => ?_) (fun c1 => ?_)
    · have h := h.1 c1
      exact r_forget (le_n (le_n (le_n le_0))) (hK _  h)
    · have h := h.2 c1
      refine r_aload_n (pc := 60) E dX9_end_60 rfl rfl ?_
      refine r_get (pc := 61) (j := 20) (v := .ref (xa X 71)) E ok_63 kc_9 rfl q_796 rfl dX9_end_61 ?_
      refine r_iload_n (pc := 64) E dX9_end_64 rfl rfl ?_
      refine r_aload_n (pc := 65) E dX9_end_65 rfl rfl ?_
      refine r_get (pc := 66) (j := 20) (v := .ref (xa X 71)) E ok_63 kc_9 rfl q_796 rfl dX9_end_66 ?_
      refine r_iload_n (pc := 69) E dX9_end_69 rfl rfl ?_
      refine r_iconst (pc := 70) (v := 1) E dX9_end_70 (by decide) ?_
      refine r_iadd (pc := 71) E dX9_end_71 ?_
      refine r_iald (pc := 72) (n := 30) E ok_71 rfl h.1 dX9_end_72 ?_
      have h := h.2
      refine r_iast (pc := 73) (n := 30) E ok_71 rfl h.1 dX9_end_73 (fun s4 es4 => ?_)
      have h := h.2 s4 es4
      refine r_aload_n (pc := 74) E dX9_end_74 rfl rfl ?_
      refine r_get (pc := 75) (j := 21) (v := .ref (xa X 72)) E ok_63 kc_9 rfl q_797 rfl dX9_end_75 ?_
      refine r_iload_n (pc := 78) E dX9_end_78 rfl rfl ?_
      refine r_aload_n (pc := 79) E dX9_end_79 rfl rfl ?_
      refine r_get (pc := 80) (j := 21) (v := .ref (xa X 72)) E ok_63 kc_9 rfl q_797 rfl dX9_end_80 ?_
      refine r_iload_n (pc := 83) E dX9_end_83 rfl rfl ?_
      refine r_iconst (pc := 84) (v := 1) E dX9_end_84 (by decide) ?_
      refine r_iadd (pc := 85) E dX9_end_85 ?_
      refine r_iald (pc := 86) (n := 30) E ok_72 rfl h.1 dX9_end_86 ?_
      have h := h.2
      refine r_iast (pc := 87) (n := 30) E ok_72 rfl h.1 dX9_end_87 (fun s5 es5 => ?_)
      have h := h.2 s5 es5
      refine r_aload_n (pc := 88) E dX9_end_88 rfl rfl ?_
      refine r_get (pc := 89) (j := 22) (v := .ref (xa X 73)) E ok_63 kc_9 rfl q_798 rfl dX9_end_89 ?_
      refine r_iload_n (pc := 92) E dX9_end_92 rfl rfl ?_
      refine r_aload_n (pc := 93) E dX9_end_93 rfl rfl ?_
      refine r_get (pc := 94) (j := 22) (v := .ref (xa X 73)) E ok_63 kc_9 rfl q_798 rfl dX9_end_94 ?_
      refine r_iload_n (pc := 97) E dX9_end_97 rfl rfl ?_
      refine r_iconst (pc := 98) (v := 1) E dX9_end_98 (by decide) ?_
      refine r_iadd (pc := 99) E dX9_end_99 ?_
      refine r_iald (pc := 100) (n := 30) E ok_73 rfl h.1 dX9_end_100 ?_
      have h := h.2
      refine r_iast (pc := 101) (n := 30) E ok_73 rfl h.1 dX9_end_101 (fun s6 es6 => ?_)
      have h := h.2 s6 es6
      refine r_aload_n (pc := 102) E dX9_end_102 rfl rfl ?_
      refine r_get (pc := 103) (j := 23) (v := .ref (xa X 74)) E ok_63 kc_9 rfl q_799 rfl dX9_end_103 ?_
      refine r_iload_n (pc := 106) E dX9_end_106 rfl rfl ?_
      refine r_aload_n (pc := 107) E dX9_end_107 rfl rfl ?_
      refine r_get (pc := 108) (j := 23) (v := .ref (xa X 74)) E ok_63 kc_9 rfl q_799 rfl dX9_end_108 ?_
      refine r_iload_n (pc := 111) E dX9_end_111 rfl rfl ?_
      refine r_iconst (pc := 112) (v := 1) E dX9_end_112 (by decide) ?_
      refine r_iadd (pc := 113) E dX9_end_113 ?_
      refine r_iald (pc := 114) (n := 30) E ok_74 rfl h.1 dX9_end_114 ?_
      have h := h.2
      refine r_iast (pc := 115) (n := 30) E ok_74 rfl h.1 dX9_end_115 (fun s7 es7 => ?_)
      have h := h.2 s7 es7
      refine r_aload_n (pc := 116) E dX9_end_116 rfl rfl ?_
      refine r_get (pc := 117) (j := 24) (v := .ref (xa X 75)) E ok_63 kc_9 rfl q_800 rfl dX9_end_117 ?_
      refine r_iload_n (pc := 120) E dX9_end_120 rfl rfl ?_
      refine r_aload_n (pc := 121) E dX9_end_121 rfl rfl ?_
      refine r_get (pc := 122) (j := 24) (v := .ref (xa X 75)) E ok_63 kc_9 rfl q_800 rfl dX9_end_122 ?_
      refine r_iload_n (pc := 125) E dX9_end_125 rfl rfl ?_
      refine r_iconst (pc := 126) (v := 1) E dX9_end_126 (by decide) ?_
      refine r_iadd (pc := 127) E dX9_end_127 ?_
      refine r_iald (pc := 128) (n := 30) E ok_75 rfl h.1 dX9_end_128 ?_
      have h := h.2
      refine r_iast (pc := 129) (n := 30) E ok_75 rfl h.1 dX9_end_129 (fun s8 es8 => ?_)
      have h := h.2 s8 es8
      refine r_aload_n (pc := 130) E dX9_end_130 rfl rfl ?_
      refine r_get (pc := 131) (j := 25) (v := .ref (xa X 76)) E ok_63 kc_9 rfl q_801 rfl dX9_end_131 ?_
      refine r_iload_n (pc := 134) E dX9_end_134 rfl rfl ?_
      refine r_aload_n (pc := 135) E dX9_end_135 rfl rfl ?_
      refine r_get (pc := 136) (j := 25) (v := .ref (xa X 76)) E ok_63 kc_9 rfl q_801 rfl dX9_end_136 ?_
      refine r_iload_n (pc := 139) E dX9_end_139 rfl rfl ?_
      refine r_iconst (pc := 140) (v := 1) E dX9_end_140 (by decide) ?_
      refine r_iadd (pc := 141) E dX9_end_141 ?_
      refine r_iald (pc := 142) (n := 30) E ok_76 rfl h.1 dX9_end_142 ?_
      have h := h.2
      refine r_iast (pc := 143) (n := 30) E ok_76 rfl h.1 dX9_end_143 (fun s9 es9 => ?_)
      have h := h.2 s9 es9
      refine r_aload_n (pc := 144) E dX9_end_144 rfl rfl ?_
      refine r_get (pc := 145) (j := 26) (v := .ref (xa X 77)) E ok_63 kc_9 rfl q_802 rfl dX9_end_145 ?_
      refine r_iload_n (pc := 148) E dX9_end_148 rfl rfl ?_
      refine r_aload_n (pc := 149) E dX9_end_149 rfl rfl ?_
      refine r_get (pc := 150) (j := 26) (v := .ref (xa X 77)) E ok_63 kc_9 rfl q_802 rfl dX9_end_150 ?_
      refine r_iload_n (pc := 153) E dX9_end_153 rfl rfl ?_
      refine r_iconst (pc := 154) (v := 1) E dX9_end_154 (by decide) ?_
      refine r_iadd (pc := 155) E dX9_end_155 ?_
      refine r_iald (pc := 156) (n := 30) E ok_77 rfl h.1 dX9_end_156 ?_
      have h := h.2
      refine r_iast (pc := 157) (n := 30) E ok_77 rfl h.1 dX9_end_157 (fun s10 es10 => ?_)
      have h := h.2 s10 es10
      obtain ⟨x1, ex1⟩ : ∃ z : Int32, z = v2 + 1 := ⟨_, rfl⟩
      have h := h x1 ex1
      refine r_iinc (pc := 158) (v := 1) (lv' := [some (.ref (xa X 63)), none, some (.int x1)]) E dX9_end_158 rfl (by decide) rfl rfl (by rw [ex1]; rfl) ?_
      refine r_goto (pc := 161) (tgt := 52) E dX9_end_161 (by decide) ?_
      exact r_forget (le_s (le_n (le_s le_0))) (ih _ _ h)

def w_X9_end (s0 : ST) (a1 : Int32) (Q : ST → Prop) : Prop := vp_in a1 30 ∧ (vp_in (s0 72 a1.toNatClampNeg) 10 ∧ (vp_in a1 30 ∧ (vp_in (s0 72 a1.toNatClampNeg) 10 ∧ (∀ s1 : ST, s1 = up s0 66 (s0 72 a1.toNatClampNeg).toNatClampNeg ((s0 66 (s0 72 a1.toNatClampNeg).toNatClampNeg) + (s0 73 a1.toNatClampNeg)) → (vp_in a1 30 ∧ (vp_in (s1 72 a1.toNatClampNeg) 10 ∧ (vp_in a1 30 ∧ (vp_in (s1 72 a1.toNatClampNeg) 10 ∧ (∀ s2 : ST, s2 = up s1 67 (s1 72 a1.toNatClampNeg).toNatClampNeg ((s1 67 (s1 72 a1.toNatClampNeg).toNatClampNeg) - (s1 73 a1.toNatClampNeg)) → (∀ s3 : ST, s3 = up s2 63 18 ((s2 63 18) - 1) → (∃ n1 : Nat, w_X9_end_L52 (fun (s11 : ST) => Q s11) Q n1 s3 a1)))))))))))
set_option maxRecDepth 100000 in
set_option maxHeartbeats 4000000 in
theorem c_X9_end {l : Launch} (X : XT) (s0 : ST) (a1 : Int32) (Q : ST → Prop) (h : w_X9_end s0 a1 Q) : MetV l yX9_end (wS yX9_end cX9_end 3 none) rm_X9_end X s0 [.ref (xa X 63), .int a1] Q := by
  refine metG (own := RX9) (k := 1) (lv0 := [some (.ref (xa X 63)), some (.int a1), none]) (by decide) rfl rfl rfl ?_
  intro p e s m args below meth c E hr
  refine r_aload_n (pc := 0) E dX9_end_0 rfl rfl ?_
  refine r_get (pc := 1) (j := 13) (v := .ref (xa X 66)) E ok_63 kc_9 rfl q_789 rfl dX9_end_1 ?_
  refine r_aload_n (pc := 4) E dX9_end_4 rfl rfl ?_
  refine r_get (pc := 5) (j := 21) (v := .ref (xa X 72)) E ok_63 kc_9 rfl q_797 rfl dX9_end_5 ?_
  refine r_iload_n (pc := 8) E dX9_end_8 rfl rfl ?_
  refine r_iald (pc := 9) (n := 30) E ok_72 rfl h.1 dX9_end_9 ?_
  have h := h.2
  refine r_dup2 (pc := 10) E dX9_end_10 rfl rfl ?_
  refine r_iald (pc := 11) (n := 10) E ok_66 rfl h.1 dX9_end_11 ?_
  have h := h.2
  refine r_aload_n (pc := 12) E dX9_end_12 rfl rfl ?_
  refine r_get (pc := 13) (j := 22) (v := .ref (xa X 73)) E ok_63 kc_9 rfl q_798 rfl dX9_end_13 ?_
  refine r_iload_n (pc := 16) E dX9_end_16 rfl rfl ?_
  refine r_iald (pc := 17) (n := 30) E ok_73 rfl h.1 dX9_end_17 ?_
  have h := h.2
  refine r_iadd (pc := 18) E dX9_end_18 ?_
  refine r_iast (pc := 19) (n := 10) E ok_66 rfl h.1 dX9_end_19 (fun s1 es1 => ?_)
  have h := h.2 s1 es1
  refine r_aload_n (pc := 20) E dX9_end_20 rfl rfl ?_
  refine r_get (pc := 21) (j := 14) (v := .ref (xa X 67)) E ok_63 kc_9 rfl q_790 rfl dX9_end_21 ?_
  refine r_aload_n (pc := 24) E dX9_end_24 rfl rfl ?_
  refine r_get (pc := 25) (j := 21) (v := .ref (xa X 72)) E ok_63 kc_9 rfl q_797 rfl dX9_end_25 ?_
  refine r_iload_n (pc := 28) E dX9_end_28 rfl rfl ?_
  refine r_iald (pc := 29) (n := 30) E ok_72 rfl h.1 dX9_end_29 ?_
  have h := h.2
  refine r_dup2 (pc := 30) E dX9_end_30 rfl rfl ?_
  refine r_iald (pc := 31) (n := 10) E ok_67 rfl h.1 dX9_end_31 ?_
  have h := h.2
  refine r_aload_n (pc := 32) E dX9_end_32 rfl rfl ?_
  refine r_get (pc := 33) (j := 22) (v := .ref (xa X 73)) E ok_63 kc_9 rfl q_798 rfl dX9_end_33 ?_
  refine r_iload_n (pc := 36) E dX9_end_36 rfl rfl ?_
  refine r_iald (pc := 37) (n := 30) E ok_73 rfl h.1 dX9_end_37 ?_
  have h := h.2
  refine r_isub (pc := 38) E dX9_end_38 ?_
  refine r_iast (pc := 39) (n := 10) E ok_67 rfl h.1 dX9_end_39 (fun s2 es2 => ?_)
  have h := h.2 s2 es2
  refine r_aload_n (pc := 40) E dX9_end_40 rfl rfl ?_
  refine r_dup (pc := 41) E dX9_end_41 rfl ?_
  refine r_get (pc := 42) (j := 18) E ok_63 kc_9 rfl q_794 (svI rfl) dX9_end_42 ?_
  refine r_iconst (pc := 45) (v := 1) E dX9_end_45 (by decide) ?_
  refine r_isub (pc := 46) E dX9_end_46 ?_
  refine r_put (pc := 47) (j := 18) E ok_63 kc_9 rfl q_794 rfl rfl rfl dX9_end_47 (fun s3 es3 => ?_)
  have h := h s3 es3
  refine r_iload_n (pc := 50) E dX9_end_50 rfl rfl ?_
  refine r_istore_n (pc := 51) (lv' := [some (.ref (xa X 63)), some (.int a1), some (.int a1)]) E dX9_end_51 rfl rfl rfl rfl ?_
  obtain ⟨n1, h⟩ := h
  refine r_forget (le_s (le_n (le_s le_0))) (t_X9_end_L52 E hr ?_ n1 _ _ h)
  intro s11 h
  exact r_vret (pc := 164) E hr dX9_end_164 h

/-! ChairFrontModel.tear -/
def rm_X9_tear : Room := { frames := 1, cells := 0, slots := 0, locals := 22 }
theorem ci_X9_tear : CI yX9_tear RX9 cX9_tear 4 none 1 := ⟨q_1012, q_40, q_65, q_1013, by decide +kernel⟩
def w_X9_tear_L35 (v1 : Int32) (K : ST → Int32 → Prop) (Q : ST → Prop) : Nat → ST → Int32 → Int32 → Prop
  | 0, _, _, _ => False
  | n + 1, s0, v2, v3 => (((s0 63 18) ≤ v3 → (K s0 v2)) ∧ (¬ ((s0 63 18) ≤ v3) → (vp_in v3 30 ∧ (((¬ (s0 72 v3.toNatClampNeg) = v1 → (∀ x1 : Int32, x1 = v3 + 1 → (w_X9_tear_L35 v1 K Q n s0 v2 x1))) ∧ ((s0 72 v3.toNatClampNeg) = v1 → (∀ x2 : Int32, x2 = v3 + 1 → (w_X9_tear_L35 v1 K Q n s0 v3 x2))))))))
set_option maxRecDepth 100000 in
set_option maxHeartbeats 4000000 in
theorem t_X9_tear_L35 {p : Program} {l : Launch} {e : Env} {s : State} {m : MethodId} {args : Array Value} {below : List Frame} {meth : Method} {c : Code} {X : XT} (E : Ev p rm_X9_tear s m args meth c X (xA X) 4 0 0 cX9_tear RX9) (hr : meth.sig.returnType = none) {v1 : Int32} {K : ST → Int32 → Prop} {Q : ST → Prop} (hK : ∀ (s0 : ST) (v2 : Int32), K s0 v2 → G p l e rm_X9_tear s m args below meth c X (xA X) 4 0 0 (MQ below (va_Qv Q (Bw X) (xA X)) args s 0 0 (xA X)) s0 65 [some (.ref (xa X 63)), some (.int v1), some (.int v2), none] []) : ∀ (n : Nat) (s0 : ST) (v2 : Int32) (v3 : Int32), w_X9_tear_L35 v1 K Q n s0 v2 v3 → G p l e rm_X9_tear s m args below meth c X (xA X) 4 0 0 (MQ below (va_Qv Q (Bw X) (xA X)) args s 0 0 (xA X)) s0 35 [some (.ref (xa X 63)), some (.int v1), some (.int v2), some (.int v3)] [] := by
  intro n
  induction n with
  | zero => intro s0 v2 v3 h; exact h.elim
  | succ n ih =>
    intro s0 v2 v3 h
    refine r_iload_n (pc := 35) E dX9_tear_35 rfl rfl ?_
    refine r_aload_n (pc := 36) E dX9_tear_36 rfl rfl ?_
    refine r_get (pc := 37) (j := 18) E ok_63 kc_9 rfl q_794 (svI rfl) dX9_tear_37 ?_
    refine r_icmp_ge (pc := 40) (tgt := 65) E dX9_tear_40 (by decide) (fun c2 => ?_) (fun c2 => ?_)
    · have h := h.1 c2
      exact r_forget (le_s (le_s (le_s (le_n le_0)))) (hK _ _ h)
    · have h := h.2 c2
      refine r_aload_n (pc := 43) E dX9_tear_43 rfl rfl ?_
      refine r_get (pc := 44) (j := 21) (v := .ref (xa X 72)) E ok_63 kc_9 rfl q_797 rfl dX9_tear_44 ?_
      refine r_iload_n (pc := 47) E dX9_tear_47 rfl rfl ?_
      refine r_iald (pc := 48) (n := 30) E ok_72 rfl h.1 dX9_tear_48 ?_
      have h := h.2
      refine r_iload_n (pc := 49) E dX9_tear_49 rfl rfl ?_
      refine r_icmp_ne (pc := 50) (tgt := 57) E dX9_tear_50 (by decide) (fun c3 => ?_) (fun c3 => ?_)
      · have h := h.1 c3
        refine r_iload_n (pc := 57) E dX9_tear_57 rfl rfl ?_
        refine r_istore_n (pc := 58) (lv' := [some (.ref (xa X 63)), some (.int v1), some (.int v2), some (.int v3)]) E dX9_tear_58 rfl rfl rfl rfl ?_
        obtain ⟨x1, ex1⟩ : ∃ z : Int32, z = v3 + 1 := ⟨_, rfl⟩
        have h := h x1 ex1
        refine r_iinc (pc := 59) (v := 1) (lv' := [some (.ref (xa X 63)), some (.int v1), some (.int v2), some (.int x1)]) E dX9_tear_59 rfl (by decide) rfl rfl (by rw [ex1]; rfl) ?_
        refine r_goto (pc := 62) (tgt := 35) E dX9_tear_62 (by decide) ?_
        exact r_forget (le_s (le_s (le_s (le_s le_0)))) (ih _ _ _ h)
      · have h := h.2 c3
        refine r_iload_n (pc := 53) E dX9_tear_53 rfl rfl ?_
        refine r_goto (pc := 54) (tgt := 58) E dX9_tear_54 (by decide) ?_
        refine r_istore_n (pc := 58) (lv' := [some (.ref (xa X 63)), some (.int v1), some (.int v3), some (.int v3)]) E dX9_tear_58 rfl rfl rfl rfl ?_
        obtain ⟨x2, ex2⟩ : ∃ z : Int32, z = v3 + 1 := ⟨_, rfl⟩
        have h := h x2 ex2
        refine r_iinc (pc := 59) (v := 1) (lv' := [some (.ref (xa X 63)), some (.int v1), some (.int v3), some (.int x2)]) E dX9_tear_59 rfl (by decide) rfl rfl (by rw [ex2]; rfl) ?_
        refine r_goto (pc := 62) (tgt := 35) E dX9_tear_62 (by decide) ?_
        exact r_forget (le_s (le_s (le_s (le_s le_0)))) (ih _ _ _ h)

def w_X9_tear (s0 : ST) (a1 : Int32) (Q : ST → Prop) : Prop := vp_in a1 10 ∧ ((((s0 66 a1.toNatClampNeg) ≤ 0 → (∃ n1 : Nat, w_X9_tear_L35 a1 (fun (s1 : ST) (x3 : Int32) => ((x3 = (-1000000) → (Q s1)) ∧ (¬ (x3 = (-1000000)) → (vp_in x3 30 ∧ (vp_in x3 30 ∧ (∀ s2 : ST, s2 = up s1 73 x3.toNatClampNeg ((s1 73 x3.toNatClampNeg) - 1) → (vp_in a1 10 ∧ (vp_in a1 10 ∧ (∀ s3 : ST, s3 = up s2 67 a1.toNatClampNeg ((s2 67 a1.toNatClampNeg) - 1) → (∀ s4 : ST, s4 = up s3 63 3 ((s3 63 3) + 1) → (vp_in x3 30 ∧ (((¬ (s4 73 x3.toNatClampNeg) = 0 → (Q s4)) ∧ ((s4 73 x3.toNatClampNeg) = 0 → (w_X9_end s4 x3 (fun s5 => Q s5)))))))))))))))) Q n1 s0 (-1000000) 0)) ∧ (¬ ((s0 66 a1.toNatClampNeg) ≤ 0) → (vp_in a1 10 ∧ (vp_in a1 10 ∧ (∀ s6 : ST, s6 = up s0 66 a1.toNatClampNeg ((s0 66 a1.toNatClampNeg) - 1) → (∀ s7 : ST, s7 = up s6 63 3 ((s6 63 3) + 1) → (Q s7))))))))
set_option maxRecDepth 100000 in
set_option maxHeartbeats 4000000 in
theorem c_X9_tear {l : Launch} (X : XT) (s0 : ST) (a1 : Int32) (Q : ST → Prop) (h : w_X9_tear s0 a1 Q) : MetV l yX9_tear (wS yX9_tear cX9_tear 4 none) rm_X9_tear X s0 [.ref (xa X 63), .int a1] Q := by
  refine metG (own := RX9) (k := 2) (lv0 := [some (.ref (xa X 63)), some (.int a1), none, none]) (by decide) rfl rfl rfl ?_
  intro p e s m args below meth c E hr
  refine r_aload_n (pc := 0) E dX9_tear_0 rfl rfl ?_
  refine r_get (pc := 1) (j := 13) (v := .ref (xa X 66)) E ok_63 kc_9 rfl q_789 rfl dX9_tear_1 ?_
  refine r_iload_n (pc := 4) E dX9_tear_4 rfl rfl ?_
  refine r_iald (pc := 5) (n := 10) E ok_66 rfl h.1 dX9_tear_5 ?_
  have h := h.2
  refine r_if_le (pc := 6) (tgt := 30) E dX9_tear_6 (by decide) (fun c1 => ?_) (fun c1 => ?_)
  · have h := h.1 c1
    refine r_ldc (pc := 30) (v := (-1000000)) E q_957 dX9_tear_30 ?_
    refine r_istore_n (pc := 32) (lv' := [some (.ref (xa X 63)), some (.int a1), some (.int (-1000000)), none]) E dX9_tear_32 rfl rfl rfl rfl ?_
    refine r_iconst (pc := 33) (v := 0) E dX9_tear_33 (by decide) ?_
    refine r_istore_n (pc := 34) (lv' := [some (.ref (xa X 63)), some (.int a1), some (.int (-1000000)), some (.int 0)]) E dX9_tear_34 rfl rfl rfl rfl ?_
    obtain ⟨n1, h⟩ := h
    refine r_forget (le_s (le_s (le_s (le_s le_0)))) (t_X9_tear_L35 E hr ?_ n1 _ _ _ h)
    intro s1 x3 h
    refine r_iload_n (pc := 65) E dX9_tear_65 rfl rfl ?_
    refine r_ldc (pc := 66) (v := (-1000000)) E q_957 dX9_tear_66 ?_
    refine r_icmp_eq (pc := 68) (tgt := 115) E dX9_tear_68 (by decide) (fun c4 => ?_) (fun c4 => ?_)
    · have h := h.1 c4
      exact r_vret (pc := 115) E hr dX9_tear_115 h
    · have h := h.2 c4
      refine r_aload_n (pc := 71) E dX9_tear_71 rfl rfl ?_
      refine r_get (pc := 72) (j := 22) (v := .ref (xa X 73)) E ok_63 kc_9 rfl q_798 rfl dX9_tear_72 ?_
      refine r_iload_n (pc := 75) E dX9_tear_75 rfl rfl ?_
      refine r_dup2 (pc := 76) E dX9_tear_76 rfl rfl ?_
      refine r_iald (pc := 77) (n := 30) E ok_73 rfl h.1 dX9_tear_77 ?_
      have h := h.2
      refine r_iconst (pc := 78) (v := 1) E dX9_tear_78 (by decide) ?_
      refine r_isub (pc := 79) E dX9_tear_79 ?_
      refine r_iast (pc := 80) (n := 30) E ok_73 rfl h.1 dX9_tear_80 (fun s2 es2 => ?_)
      have h := h.2 s2 es2
      refine r_aload_n (pc := 81) E dX9_tear_81 rfl rfl ?_
      refine r_get (pc := 82) (j := 14) (v := .ref (xa X 67)) E ok_63 kc_9 rfl q_790 rfl dX9_tear_82 ?_
      refine r_iload_n (pc := 85) E dX9_tear_85 rfl rfl ?_
      refine r_dup2 (pc := 86) E dX9_tear_86 rfl rfl ?_
      refine r_iald (pc := 87) (n := 10) E ok_67 rfl h.1 dX9_tear_87 ?_
      have h := h.2
      refine r_iconst (pc := 88) (v := 1) E dX9_tear_88 (by decide) ?_
      refine r_isub (pc := 89) E dX9_tear_89 ?_
      refine r_iast (pc := 90) (n := 10) E ok_67 rfl h.1 dX9_tear_90 (fun s3 es3 => ?_)
      have h := h.2 s3 es3
      refine r_aload_n (pc := 91) E dX9_tear_91 rfl rfl ?_
      refine r_dup (pc := 92) E dX9_tear_92 rfl ?_
      refine r_get (pc := 93) (j := 3) E ok_63 kc_9 rfl q_779 (svI rfl) dX9_tear_93 ?_
      refine r_iconst (pc := 96) (v := 1) E dX9_tear_96 (by decide) ?_
      refine r_iadd (pc := 97) E dX9_tear_97 ?_
      refine r_put (pc := 98) (j := 3) E ok_63 kc_9 rfl q_779 rfl rfl rfl dX9_tear_98 (fun s4 es4 => ?_)
      have h := h s4 es4
      refine r_aload_n (pc := 101) E dX9_tear_101 rfl rfl ?_
      refine r_get (pc := 102) (j := 22) (v := .ref (xa X 73)) E ok_63 kc_9 rfl q_798 rfl dX9_tear_102 ?_
      refine r_iload_n (pc := 105) E dX9_tear_105 rfl rfl ?_
      refine r_iald (pc := 106) (n := 30) E ok_73 rfl h.1 dX9_tear_106 ?_
      have h := h.2
      refine r_if_ne (pc := 107) (tgt := 115) E dX9_tear_107 (by decide) (fun c5 => ?_) (fun c5 => ?_)
      · have h := h.1 c5
        exact r_vret (pc := 115) E hr dX9_tear_115 h
      · have h := h.2 c5
        refine r_aload_n (pc := 110) E dX9_tear_110 rfl rfl ?_
        refine r_iload_n (pc := 111) E dX9_tear_111 rfl rfl ?_
        refine afterV (pc := 112) E (fun H locs ls hP hS hl => runV (As := [.int x3]) (rest := []) E (c_X9_end X _ _ _  h) ok_63 kc_9.1 ci_X9_end q_1006 rfl rfl rfl rfl dX9_tear_112 hP hS hl) (fun s5 h => ?_)
        exact r_vret (pc := 115) E hr dX9_tear_115 h
  · have h := h.2 c1
    refine r_aload_n (pc := 9) E dX9_tear_9 rfl rfl ?_
    refine r_get (pc := 10) (j := 13) (v := .ref (xa X 66)) E ok_63 kc_9 rfl q_789 rfl dX9_tear_10 ?_
    refine r_iload_n (pc := 13) E dX9_tear_13 rfl rfl ?_
    refine r_dup2 (pc := 14) E dX9_tear_14 rfl rfl ?_
    refine r_iald (pc := 15) (n := 10) E ok_66 rfl h.1 dX9_tear_15 ?_
    have h := h.2
    refine r_iconst (pc := 16) (v := 1) E dX9_tear_16 (by decide) ?_
    refine r_isub (pc := 17) E dX9_tear_17 ?_
    refine r_iast (pc := 18) (n := 10) E ok_66 rfl h.1 dX9_tear_18 (fun s6 es6 => ?_)
    have h := h.2 s6 es6
    refine r_aload_n (pc := 19) E dX9_tear_19 rfl rfl ?_
    refine r_dup (pc := 20) E dX9_tear_20 rfl ?_
    refine r_get (pc := 21) (j := 3) E ok_63 kc_9 rfl q_779 (svI rfl) dX9_tear_21 ?_
    refine r_iconst (pc := 24) (v := 1) E dX9_tear_24 (by decide) ?_
    refine r_iadd (pc := 25) E dX9_tear_25 ?_
    refine r_put (pc := 26) (j := 3) E ok_63 kc_9 rfl q_779 rfl rfl rfl dX9_tear_26 (fun s7 es7 => ?_)
    have h := h s7 es7
    exact r_vret (pc := 29) E hr dX9_tear_29 h

/-! ChairFrontModel.hour -/
def rm_X9_hour : Room := { frames := 2, cells := 0, slots := 0, locals := 45 }
theorem ci_X9_hour : CI yX9_hour RX9 cX9_hour 7 (some .int) 4 := ⟨q_1000, q_1001, q_65, q_1002, by decide +kernel⟩
def w_X9_hour_L116 (v1 : Int32) (v2 : Int32) (v3 : Int32) (v4 : Int32) (v5 : Int32) (K : ST → Prop) (Q : Int32 → ST → Prop) : Nat → ST → Int32 → Prop
  | 0, _, _ => False
  | n + 1, s0, v6 => ((v6 < 0 → (K s0)) ∧ (¬ (v6 < 0) → (vp_in v6 30 ∧ (((¬ (s0 72 v6.toNatClampNeg) = v5 → (∀ x3 : Int32, x3 = v6 + (-1) → (w_X9_hour_L116 v1 v2 v3 v4 v5 K Q n s0 x3))) ∧ ((s0 72 v6.toNatClampNeg) = v5 → (w_X9_end s0 v6 (fun s8 => ∀ x4 : Int32, x4 = v6 + (-1) → (w_X9_hour_L116 v1 v2 v3 v4 v5 K Q n s8 x4)))))))))
set_option maxRecDepth 100000 in
set_option maxHeartbeats 4000000 in
theorem t_X9_hour_L116 {p : Program} {l : Launch} {e : Env} {s : State} {m : MethodId} {args : Array Value} {below : List Frame} {meth : Method} {c : Code} {X : XT} (E : Ev p rm_X9_hour s m args meth c X (xA X) 7 0 0 cX9_hour RX9) (hr : meth.sig.returnType = (some .int)) {v1 : Int32} {v2 : Int32} {v3 : Int32} {v4 : Int32} {v5 : Int32} {K : ST → Prop} {Q : Int32 → ST → Prop} (hK : ∀ (s0 : ST), K s0 → G p l e rm_X9_hour s m args below meth c X (xA X) 7 0 0 (MQ below (va_Qi Q (Bw X) (xA X)) args s 0 0 (xA X)) s0 145 [some (.ref (xa X 63)), some (.int v1), some (.int v2), some (.int v3), some (.int v4), some (.int v5), none] []) : ∀ (n : Nat) (s0 : ST) (v6 : Int32), w_X9_hour_L116 v1 v2 v3 v4 v5 K Q n s0 v6 → G p l e rm_X9_hour s m args below meth c X (xA X) 7 0 0 (MQ below (va_Qi Q (Bw X) (xA X)) args s 0 0 (xA X)) s0 116 [some (.ref (xa X 63)), some (.int v1), some (.int v2), some (.int v3), some (.int v4), some (.int v5), some (.int v6)] [] := by
  intro n
  induction n with
  | zero => intro s0 v6 h; exact h.elim
  | succ n ih =>
    intro s0 v6 h
    refine r_iload (pc := 116) E dX9_hour_116 rfl ?_
    refine r_if_lt (pc := 118) (tgt := 145) E dX9_hour_118 (by decide) (fun c8 => ?_) (fun c8 => ?_)
    · have h := h.1 c8
      exact r_forget (le_s (le_s (le_s (le_s (le_s (le_s (le_n le_0))))))) (hK _  h)
    · have h := h.2 c8
      refine r_aload_n (pc := 121) E dX9_hour_121 rfl rfl ?_
      refine r_get (pc := 122) (j := 21) (v := .ref (xa X 72)) E ok_63 kc_9 rfl q_797 rfl dX9_hour_122 ?_
      refine r_iload (pc := 125) E dX9_hour_125 rfl ?_
      refine r_iald (pc := 127) (n := 30) E ok_72 rfl h.1 dX9_hour_127 ?_
      have h := h.2
      refine r_iload (pc := 128) E dX9_hour_128 rfl ?_
      refine r_icmp_ne (pc := 130) (tgt := 139) E dX9_hour_130 (by decide) (fun c9 => ?_) (fun c9 => ?_)
      · have h := h.1 c9
        obtain ⟨x3, ex3⟩ : ∃ z : Int32, z = v6 + (-1) := ⟨_, rfl⟩
        have h := h x3 ex3
        refine r_iinc (pc := 139) (v := (-1)) (lv' := [some (.ref (xa X 63)), some (.int v1), some (.int v2), some (.int v3), some (.int v4), some (.int v5), some (.int x3)]) E dX9_hour_139 rfl (by decide) rfl rfl (by rw [ex3]; rfl) ?_
        refine r_goto (pc := 142) (tgt := 116) E dX9_hour_142 (by decide) ?_
        exact r_forget (le_s (le_s (le_s (le_s (le_s (le_s (le_s le_0))))))) (ih _ _ h)
      · have h := h.2 c9
        refine r_aload_n (pc := 133) E dX9_hour_133 rfl rfl ?_
        refine r_iload (pc := 134) E dX9_hour_134 rfl ?_
        refine afterV (pc := 136) E (fun H locs ls hP hS hl => runV (As := [.int v6]) (rest := []) E (c_X9_end X _ _ _  h) ok_63 kc_9.1 ci_X9_end q_1006 rfl rfl rfl rfl dX9_hour_136 hP hS hl) (fun s8 h => ?_)
        obtain ⟨x4, ex4⟩ : ∃ z : Int32, z = v6 + (-1) := ⟨_, rfl⟩
        have h := h x4 ex4
        refine r_iinc (pc := 139) (v := (-1)) (lv' := [some (.ref (xa X 63)), some (.int v1), some (.int v2), some (.int v3), some (.int v4), some (.int v5), some (.int x4)]) E dX9_hour_139 rfl (by decide) rfl rfl (by rw [ex4]; rfl) ?_
        refine r_goto (pc := 142) (tgt := 116) E dX9_hour_142 (by decide) ?_
        exact r_forget (le_s (le_s (le_s (le_s (le_s (le_s (le_s le_0))))))) (ih _ _ h)

def w_X9_hour_L88 (v1 : Int32) (v2 : Int32) (v3 : Int32) (v4 : Int32) (K : ST → Prop) (Q : Int32 → ST → Prop) : Nat → ST → Int32 → Prop
  | 0, _, _ => False
  | n + 1, s0, v5 => (((s0 63 10) ≤ v5 → (K s0)) ∧ (¬ ((s0 63 10) ≤ v5) → (vp_in v5 10 ∧ (((v1 < (s0 64 v5.toNatClampNeg) → (∀ x1 : Int32, x1 = v5 + 1 → (w_X9_hour_L88 v1 v2 v3 v4 K Q n s0 x1))) ∧ (¬ (v1 < (s0 64 v5.toNatClampNeg)) → (∀ x2 : Int32, x2 = ((s0 63 18) - 1) → (∃ n1 : Nat, w_X9_hour_L116 v1 v2 v3 v4 v5 (fun (s9 : ST) => w_X9_standing s9 v5 (fun r6 s10 => ∀ s11 : ST, s11 = up s10 63 2 ((s9 63 2) + r6) → (vp_in v5 10 ∧ (∀ s12 : ST, s12 = up s11 66 v5.toNatClampNeg 0 → (vp_in v5 10 ∧ (∀ s13 : ST, s13 = up s12 67 v5.toNatClampNeg 0 → (∀ x5 : Int32, x5 = v5 + 1 → (w_X9_hour_L88 v1 v2 v3 v4 K Q n s13 x5)))))))) Q n1 s0 x2))))))))
set_option maxRecDepth 100000 in
set_option maxHeartbeats 4000000 in
theorem t_X9_hour_L88 {p : Program} {l : Launch} {e : Env} {s : State} {m : MethodId} {args : Array Value} {below : List Frame} {meth : Method} {c : Code} {X : XT} (E : Ev p rm_X9_hour s m args meth c X (xA X) 7 0 0 cX9_hour RX9) (hr : meth.sig.returnType = (some .int)) {v1 : Int32} {v2 : Int32} {v3 : Int32} {v4 : Int32} {K : ST → Prop} {Q : Int32 → ST → Prop} (hK : ∀ (s0 : ST), K s0 → G p l e rm_X9_hour s m args below meth c X (xA X) 7 0 0 (MQ below (va_Qi Q (Bw X) (xA X)) args s 0 0 (xA X)) s0 182 [some (.ref (xa X 63)), none, some (.int v2), some (.int v3), some (.int v4), none, none] []) : ∀ (n : Nat) (s0 : ST) (v5 : Int32), w_X9_hour_L88 v1 v2 v3 v4 K Q n s0 v5 → G p l e rm_X9_hour s m args below meth c X (xA X) 7 0 0 (MQ below (va_Qi Q (Bw X) (xA X)) args s 0 0 (xA X)) s0 88 [some (.ref (xa X 63)), some (.int v1), some (.int v2), some (.int v3), some (.int v4), some (.int v5), none] [] := by
  intro n
  induction n with
  | zero => intro s0 v5 h; exact h.elim
  | succ n ih =>
    intro s0 v5 h
    refine r_iload (pc := 88) E dX9_hour_88 rfl ?_
    refine r_aload_n (pc := 90) E dX9_hour_90 rfl rfl ?_
    refine r_get (pc := 91) (j := 10) E ok_63 kc_9 rfl q_786 (svI rfl) dX9_hour_91 ?_
    refine r_icmp_ge (pc := 94) (tgt := 182) E dX9_hour_94 (by decide) (fun c6 => ?_) (fun c6 => ?_)
    · have h := h.1 c6
      exact r_forget (le_s (le_n (le_s (le_s (le_s (le_n (le_n le_0))))))) (hK _  h)
    · have h := h.2 c6
      refine r_aload_n (pc := 97) E dX9_hour_97 rfl rfl ?_
      refine r_get (pc := 98) (j := 11) (v := .ref (xa X 64)) E ok_63 kc_9 rfl q_787 rfl dX9_hour_98 ?_
      refine r_iload (pc := 101) E dX9_hour_101 rfl ?_
      refine r_iald (pc := 103) (n := 10) E ok_64 rfl h.1 dX9_hour_103 ?_
      have h := h.2
      refine r_iload_n (pc := 104) E dX9_hour_104 rfl rfl ?_
      refine r_icmp_gt (pc := 105) (tgt := 176) E dX9_hour_105 (by decide) (fun c7 => ?_) (fun c7 => ?_)
      · have h := h.1 c7
        obtain ⟨x1, ex1⟩ : ∃ z : Int32, z = v5 + 1 := ⟨_, rfl⟩
        have h := h x1 ex1
        refine r_iinc (pc := 176) (v := 1) (lv' := [some (.ref (xa X 63)), some (.int v1), some (.int v2), some (.int v3), some (.int v4), some (.int x1), none]) E dX9_hour_176 rfl (by decide) rfl rfl (by rw [ex1]; rfl) ?_
        refine r_goto (pc := 179) (tgt := 88) E dX9_hour_179 (by decide) ?_
        exact r_forget (le_s (le_s (le_s (le_s (le_s (le_s (le_n le_0))))))) (ih _ _ h)
      · have h := h.2 c7
        refine r_aload_n (pc := 108) E dX9_hour_108 rfl rfl ?_
        refine r_get (pc := 109) (j := 18) E ok_63 kc_9 rfl q_794 (svI rfl) dX9_hour_109 ?_
        refine r_iconst (pc := 112) (v := 1) E dX9_hour_112 (by decide) ?_
        refine r_isub (pc := 113) E dX9_hour_113 ?_
        refine r_topi (fun x2 ex2 => ?_)
        have h := h x2 ex2
        refine r_istore (pc := 114) (lv' := [some (.ref (xa X 63)), some (.int v1), some (.int v2), some (.int v3), some (.int v4), some (.int v5), some (.int x2)]) E dX9_hour_114 rfl rfl rfl ?_
        obtain ⟨n1, h⟩ := h
        refine r_forget (le_s (le_s (le_s (le_s (le_s (le_s (le_s le_0))))))) (t_X9_hour_L116 E hr ?_ n1 _ _ h)
        intro s9 h
        refine r_aload_n (pc := 145) E dX9_hour_145 rfl rfl ?_
        refine r_dup (pc := 146) E dX9_hour_146 rfl ?_
        refine r_get (pc := 147) (j := 2) E ok_63 kc_9 rfl q_778 (svI rfl) dX9_hour_147 ?_
        refine r_aload_n (pc := 150) E dX9_hour_150 rfl rfl ?_
        refine r_iload (pc := 151) E dX9_hour_151 rfl ?_
        refine afterI (pc := 153) E (fun H locs ls hP hS hl => runV (As := [.int v5]) (rest := [.int (s9 63 2), .ref (xa X 63)]) E (c_X9_standing X _ _ _  h) ok_63 kc_9.1 ci_X9_standing q_964 rfl rfl rfl rfl dX9_hour_153 hP hS hl) (fun r6 s10 h => ?_)
        refine r_iadd (pc := 156) E dX9_hour_156 ?_
        refine r_put (pc := 157) (j := 2) E ok_63 kc_9 rfl q_778 rfl rfl rfl dX9_hour_157 (fun s11 es11 => ?_)
        have h := h s11 es11
        refine r_aload_n (pc := 160) E dX9_hour_160 rfl rfl ?_
        refine r_get (pc := 161) (j := 13) (v := .ref (xa X 66)) E ok_63 kc_9 rfl q_789 rfl dX9_hour_161 ?_
        refine r_iload (pc := 164) E dX9_hour_164 rfl ?_
        refine r_iconst (pc := 166) (v := 0) E dX9_hour_166 (by decide) ?_
        refine r_iast (pc := 167) (n := 10) E ok_66 rfl h.1 dX9_hour_167 (fun s12 es12 => ?_)
        have h := h.2 s12 es12
        refine r_aload_n (pc := 168) E dX9_hour_168 rfl rfl ?_
        refine r_get (pc := 169) (j := 14) (v := .ref (xa X 67)) E ok_63 kc_9 rfl q_790 rfl dX9_hour_169 ?_
        refine r_iload (pc := 172) E dX9_hour_172 rfl ?_
        refine r_iconst (pc := 174) (v := 0) E dX9_hour_174 (by decide) ?_
        refine r_iast (pc := 175) (n := 10) E ok_67 rfl h.1 dX9_hour_175 (fun s13 es13 => ?_)
        have h := h.2 s13 es13
        obtain ⟨x5, ex5⟩ : ∃ z : Int32, z = v5 + 1 := ⟨_, rfl⟩
        have h := h x5 ex5
        refine r_iinc (pc := 176) (v := 1) (lv' := [some (.ref (xa X 63)), some (.int v1), some (.int v2), some (.int v3), some (.int v4), some (.int x5), none]) E dX9_hour_176 rfl (by decide) rfl rfl (by rw [ex5]; rfl) ?_
        refine r_goto (pc := 179) (tgt := 88) E dX9_hour_179 (by decide) ?_
        exact r_forget (le_s (le_s (le_s (le_s (le_s (le_s (le_n le_0))))))) (ih _ _ h)

def w_X9_hour_L182 (v2 : Int32) (v3 : Int32) (v4 : Int32) (K : ST → Prop) (Q : Int32 → ST → Prop) : Nat → ST → Prop
  | 0, _ => False
  | n + 1, s0 => ((v2 ≤ (s0 63 5) → (K s0)) ∧ (¬ (v2 ≤ (s0 63 5)) → ((((s0 63 18) ≤ 0 → (K s0)) ∧ (¬ ((s0 63 18) ≤ 0) → (vp_in ((s0 63 18) - 1) 30 ∧ (vp_in ((s0 63 18) - 1) 30 ∧ (vp_in ((s0 63 18) - 1) 30 ∧ (∀ s15 : ST, s15 = up s0 63 9 ((s0 63 9) + (((s0 76 ((s0 63 18) - 1).toNatClampNeg) * (s0 73 ((s0 63 18) - 1).toNatClampNeg)) * (s0 74 ((s0 63 18) - 1).toNatClampNeg))) → (w_X9_end s15 ((s15 63 18) - 1) (fun s16 => w_X9_hour_L182 v2 v3 v4 K Q n s16)))))))))))
set_option maxRecDepth 100000 in
set_option maxHeartbeats 4000000 in
theorem t_X9_hour_L182 {p : Program} {l : Launch} {e : Env} {s : State} {m : MethodId} {args : Array Value} {below : List Frame} {meth : Method} {c : Code} {X : XT} (E : Ev p rm_X9_hour s m args meth c X (xA X) 7 0 0 cX9_hour RX9) (hr : meth.sig.returnType = (some .int)) {v2 : Int32} {v3 : Int32} {v4 : Int32} {K : ST → Prop} {Q : Int32 → ST → Prop} (hK : ∀ (s0 : ST), K s0 → G p l e rm_X9_hour s m args below meth c X (xA X) 7 0 0 (MQ below (va_Qi Q (Bw X) (xA X)) args s 0 0 (xA X)) s0 254 [some (.ref (xa X 63)), none, none, some (.int v3), some (.int v4), none, none] []) : ∀ (n : Nat) (s0 : ST), w_X9_hour_L182 v2 v3 v4 K Q n s0 → G p l e rm_X9_hour s m args below meth c X (xA X) 7 0 0 (MQ below (va_Qi Q (Bw X) (xA X)) args s 0 0 (xA X)) s0 182 [some (.ref (xa X 63)), none, some (.int v2), some (.int v3), some (.int v4), none, none] [] := by
  intro n
  induction n with
  | zero => intro s0 h; exact h.elim
  | succ n ih =>
    intro s0 h
    refine r_iload_n (pc := 182) E dX9_hour_182 rfl rfl ?_
    refine r_aload_n (pc := 183) E dX9_hour_183 rfl rfl ?_
    refine r_get (pc := 184) (j := 5) E ok_63 kc_9 rfl q_781 (svI rfl) dX9_hour_184 ?_
    refine r_icmp_le (pc := 187) (tgt := 254) E dX9_hour_187 (by decide) (fun c10 => ?_) (fun c10 => ?_)
    · have h := h.1 c10
      exact r_forget (le_s (le_n (le_n (le_s (le_s (le_n (le_n le_0))))))) (hK _  h)
    · have h := h.2 c10
      refine r_aload_n (pc := 190) E dX9_hour_190 rfl rfl ?_
      refine r_get (pc := 191) (j := 18) E ok_63 kc_9 rfl q_794 (svI rfl) dX9_hour_191 ?_
      refine r_if_le (pc := 194) (tgt := 254) E dX9_hour_194 (by decide) (fun c11 => ?_) (fun c11 => ?_)
      · have h := h.1 c11
        exact r_forget (le_s (le_n (le_n (le_s (le_s (le_n (le_n le_0))))))) (hK _  h)
      · have h := h.2 c11
        refine r_aload_n (pc := 197) E dX9_hour_197 rfl rfl ?_
        refine r_dup (pc := 198) E dX9_hour_198 rfl ?_
        refine r_get (pc := 199) (j := 9) E ok_63 kc_9 rfl q_785 (svI rfl) dX9_hour_199 ?_
        refine r_aload_n (pc := 202) E dX9_hour_202 rfl rfl ?_
        refine r_get (pc := 203) (j := 25) (v := .ref (xa X 76)) E ok_63 kc_9 rfl q_801 rfl dX9_hour_203 ?_
        refine r_aload_n (pc := 206) E dX9_hour_206 rfl rfl ?_
        refine r_get (pc := 207) (j := 18) E ok_63 kc_9 rfl q_794 (svI rfl) dX9_hour_207 ?_
        refine r_iconst (pc := 210) (v := 1) E dX9_hour_210 (by decide) ?_
        refine r_isub (pc := 211) E dX9_hour_211 ?_
        refine r_iald (pc := 212) (n := 30) E ok_76 rfl h.1 dX9_hour_212 ?_
        have h := h.2
        refine r_aload_n (pc := 213) E dX9_hour_213 rfl rfl ?_
        refine r_get (pc := 214) (j := 22) (v := .ref (xa X 73)) E ok_63 kc_9 rfl q_798 rfl dX9_hour_214 ?_
        refine r_aload_n (pc := 217) E dX9_hour_217 rfl rfl ?_
        refine r_get (pc := 218) (j := 18) E ok_63 kc_9 rfl q_794 (svI rfl) dX9_hour_218 ?_
        refine r_iconst (pc := 221) (v := 1) E dX9_hour_221 (by decide) ?_
        refine r_isub (pc := 222) E dX9_hour_222 ?_
        refine r_iald (pc := 223) (n := 30) E ok_73 rfl h.1 dX9_hour_223 ?_
        have h := h.2
        refine r_imul (pc := 224) E dX9_hour_224 ?_
        refine r_aload_n (pc := 225) E dX9_hour_225 rfl rfl ?_
        refine r_get (pc := 226) (j := 23) (v := .ref (xa X 74)) E ok_63 kc_9 rfl q_799 rfl dX9_hour_226 ?_
        refine r_aload_n (pc := 229) E dX9_hour_229 rfl rfl ?_
        refine r_get (pc := 230) (j := 18) E ok_63 kc_9 rfl q_794 (svI rfl) dX9_hour_230 ?_
        refine r_iconst (pc := 233) (v := 1) E dX9_hour_233 (by decide) ?_
        refine r_isub (pc := 234) E dX9_hour_234 ?_
        refine r_iald (pc := 235) (n := 30) E ok_74 rfl h.1 dX9_hour_235 ?_
        have h := h.2
        refine r_imul (pc := 236) E dX9_hour_236 ?_
        refine r_iadd (pc := 237) E dX9_hour_237 ?_
        refine r_put (pc := 238) (j := 9) E ok_63 kc_9 rfl q_785 rfl rfl rfl dX9_hour_238 (fun s15 es15 => ?_)
        have h := h s15 es15
        refine r_aload_n (pc := 241) E dX9_hour_241 rfl rfl ?_
        refine r_aload_n (pc := 242) E dX9_hour_242 rfl rfl ?_
        refine r_get (pc := 243) (j := 18) E ok_63 kc_9 rfl q_794 (svI rfl) dX9_hour_243 ?_
        refine r_iconst (pc := 246) (v := 1) E dX9_hour_246 (by decide) ?_
        refine r_isub (pc := 247) E dX9_hour_247 ?_
        refine afterV (pc := 248) E (fun H locs ls hP hS hl => runV (As := [.int ((s15 63 18) - 1)]) (rest := []) E (c_X9_end X _ _ _  h) ok_63 kc_9.1 ci_X9_end q_1006 rfl rfl rfl rfl dX9_hour_248 hP hS hl) (fun s16 h => ?_)
        refine r_goto (pc := 251) (tgt := 182) E dX9_hour_251 (by decide) ?_
        exact r_forget (le_s (le_n (le_s (le_s (le_s (le_n (le_n le_0))))))) (ih _  h)

def w_X9_hour_L265 (v3 : Int32) (v4 : Int32) (K : ST → Int32 → Prop) (Q : Int32 → ST → Prop) : Nat → ST → Int32 → Int32 → Prop
  | 0, _, _, _ => False
  | n + 1, s0, v5, v6 => ((v6 < 0 → (K s0 v5)) ∧ (¬ (v6 < 0) → (vp_in v6 5 ∧ (((v3 < (s0 78 v6.toNatClampNeg) → (∀ x7 : Int32, x7 = v6 + (-1) → (w_X9_hour_L265 v3 v4 K Q n s0 v5 x7))) ∧ (¬ (v3 < (s0 78 v6.toNatClampNeg)) → (vp_in v6 5 ∧ (∀ x8 : Int32, x8 = (s0 79 v6.toNatClampNeg) → (∀ x9 : Int32, x9 = v6 + (-1) → (w_X9_hour_L265 v3 v4 K Q n s0 x8 x9))))))))))
set_option maxRecDepth 100000 in
set_option maxHeartbeats 4000000 in
theorem t_X9_hour_L265 {p : Program} {l : Launch} {e : Env} {s : State} {m : MethodId} {args : Array Value} {below : List Frame} {meth : Method} {c : Code} {X : XT} (E : Ev p rm_X9_hour s m args meth c X (xA X) 7 0 0 cX9_hour RX9) (hr : meth.sig.returnType = (some .int)) {v3 : Int32} {v4 : Int32} {K : ST → Int32 → Prop} {Q : Int32 → ST → Prop} (hK : ∀ (s0 : ST) (v5 : Int32), K s0 v5 → G p l e rm_X9_hour s m args below meth c X (xA X) 7 0 0 (MQ below (va_Qi Q (Bw X) (xA X)) args s 0 0 (xA X)) s0 301 [some (.ref (xa X 63)), none, none, none, some (.int v4), some (.int v5), none] []) : ∀ (n : Nat) (s0 : ST) (v5 : Int32) (v6 : Int32), w_X9_hour_L265 v3 v4 K Q n s0 v5 v6 → G p l e rm_X9_hour s m args below meth c X (xA X) 7 0 0 (MQ below (va_Qi Q (Bw X) (xA X)) args s 0 0 (xA X)) s0 265 [some (.ref (xa X 63)), none, none, some (.int v3), some (.int v4), some (.int v5), some (.int v6)] [] := by
  intro n
  induction n with
  | zero => intro s0 v5 v6 h; exact h.elim
  | succ n ih =>
    intro s0 v5 v6 h
    refine r_iload (pc := 265) E dX9_hour_265 rfl ?_
    refine r_if_lt (pc := 267) (tgt := 301) E dX9_hour_267 (by decide) (fun c12 => ?_) (fun c12 => ?_)
    · have h := h.1 c12
      exact r_forget (le_s (le_n (le_n (le_n (le_s (le_s (le_n le_0))))))) (hK _ _ h)
    · have h := h.2 c12
      refine r_iload_n (pc := 270) E dX9_hour_270 rfl rfl ?_
      refine r_aload_n (pc := 271) E dX9_hour_271 rfl rfl ?_
      refine r_get (pc := 272) (j := 29) (v := .ref (xa X 78)) E ok_63 kc_9 rfl q_805 rfl dX9_hour_272 ?_
      refine r_iload (pc := 275) E dX9_hour_275 rfl ?_
      refine r_iald (pc := 277) (n := 5) E ok_78 rfl h.1 dX9_hour_277 ?_
      have h := h.2
      refine r_icmp_lt (pc := 278) (tgt := 291) E dX9_hour_278 (by decide) (fun c13 => ?_) (fun c13 => ?_)
      · have h := h.1 c13
        refine r_iload (pc := 291) E dX9_hour_291 rfl ?_
        refine r_istore (pc := 293) (lv' := [some (.ref (xa X 63)), none, none, some (.int v3), some (.int v4), some (.int v5), some (.int v6)]) E dX9_hour_293 rfl rfl rfl ?_
        obtain ⟨x7, ex7⟩ : ∃ z : Int32, z = v6 + (-1) := ⟨_, rfl⟩
        have h := h x7 ex7
        refine r_iinc (pc := 295) (v := (-1)) (lv' := [some (.ref (xa X 63)), none, none, some (.int v3), some (.int v4), some (.int v5), some (.int x7)]) E dX9_hour_295 rfl (by decide) rfl rfl (by rw [ex7]; rfl) ?_
        refine r_goto (pc := 298) (tgt := 265) E dX9_hour_298 (by decide) ?_
        exact r_forget (le_s (le_n (le_n (le_s (le_s (le_s (le_s le_0))))))) (ih _ _ _ h)
      · have h := h.2 c13
        refine r_aload_n (pc := 281) E dX9_hour_281 rfl rfl ?_
        refine r_get (pc := 282) (j := 30) (v := .ref (xa X 79)) E ok_63 kc_9 rfl q_806 rfl dX9_hour_282 ?_
        refine r_iload (pc := 285) E dX9_hour_285 rfl ?_
        refine r_iald (pc := 287) (n := 5) E ok_79 rfl h.1 dX9_hour_287 ?_
        have h := h.2
        refine r_goto (pc := 288) (tgt := 293) E dX9_hour_288 (by decide) ?_
        refine r_topi (fun x8 ex8 => ?_)
        have h := h x8 ex8
        refine r_istore (pc := 293) (lv' := [some (.ref (xa X 63)), none, none, some (.int v3), some (.int v4), some (.int x8), some (.int v6)]) E dX9_hour_293 rfl rfl rfl ?_
        obtain ⟨x9, ex9⟩ : ∃ z : Int32, z = v6 + (-1) := ⟨_, rfl⟩
        have h := h x9 ex9
        refine r_iinc (pc := 295) (v := (-1)) (lv' := [some (.ref (xa X 63)), none, none, some (.int v3), some (.int v4), some (.int x8), some (.int x9)]) E dX9_hour_295 rfl (by decide) rfl rfl (by rw [ex9]; rfl) ?_
        refine r_goto (pc := 298) (tgt := 265) E dX9_hour_298 (by decide) ?_
        exact r_forget (le_s (le_n (le_n (le_s (le_s (le_s (le_s le_0))))))) (ih _ _ _ h)

def w_X9_hour_L304 (v4 : Int32) (v5 : Int32) (K : ST → Prop) (Q : Int32 → ST → Prop) : Nat → ST → Int32 → Prop
  | 0, _, _ => False
  | n + 1, s0, v6 => (((s0 63 18) ≤ v6 → (K s0)) ∧ (¬ ((s0 63 18) ≤ v6) → (vp_in v6 30 ∧ (vp_in v6 30 ∧ (∀ s19 : ST, s19 = up s0 63 9 ((s0 63 9) + ((((s0 76 v6.toNatClampNeg) * (s0 73 v6.toNatClampNeg)) * v5) / 100)) → (∀ x11 : Int32, x11 = v6 + 1 → (w_X9_hour_L304 v4 v5 K Q n s19 x11)))))))
set_option maxRecDepth 100000 in
set_option maxHeartbeats 4000000 in
theorem t_X9_hour_L304 {p : Program} {l : Launch} {e : Env} {s : State} {m : MethodId} {args : Array Value} {below : List Frame} {meth : Method} {c : Code} {X : XT} (E : Ev p rm_X9_hour s m args meth c X (xA X) 7 0 0 cX9_hour RX9) (hr : meth.sig.returnType = (some .int)) {v4 : Int32} {v5 : Int32} {K : ST → Prop} {Q : Int32 → ST → Prop} (hK : ∀ (s0 : ST), K s0 → G p l e rm_X9_hour s m args below meth c X (xA X) 7 0 0 (MQ below (va_Qi Q (Bw X) (xA X)) args s 0 0 (xA X)) s0 349 [some (.ref (xa X 63)), none, none, none, some (.int v4), none, none] []) : ∀ (n : Nat) (s0 : ST) (v6 : Int32), w_X9_hour_L304 v4 v5 K Q n s0 v6 → G p l e rm_X9_hour s m args below meth c X (xA X) 7 0 0 (MQ below (va_Qi Q (Bw X) (xA X)) args s 0 0 (xA X)) s0 304 [some (.ref (xa X 63)), none, none, none, some (.int v4), some (.int v5), some (.int v6)] [] := by
  intro n
  induction n with
  | zero => intro s0 v6 h; exact h.elim
  | succ n ih =>
    intro s0 v6 h
    refine r_iload (pc := 304) E dX9_hour_304 rfl ?_
    refine r_aload_n (pc := 306) E dX9_hour_306 rfl rfl ?_
    refine r_get (pc := 307) (j := 18) E ok_63 kc_9 rfl q_794 (svI rfl) dX9_hour_307 ?_
    refine r_icmp_ge (pc := 310) (tgt := 349) E dX9_hour_310 (by decide) (fun c14 => ?_) (fun c14 => ?_)
    · have h := h.1 c14
      exact r_forget (le_s (le_n (le_n (le_n (le_s (le_n (le_n le_0))))))) (hK _  h)
    · have h := h.2 c14
      refine r_aload_n (pc := 313) E dX9_hour_313 rfl rfl ?_
      refine r_dup (pc := 314) E dX9_hour_314 rfl ?_
      refine r_get (pc := 315) (j := 9) E ok_63 kc_9 rfl q_785 (svI rfl) dX9_hour_315 ?_
      refine r_aload_n (pc := 318) E dX9_hour_318 rfl rfl ?_
      refine r_get (pc := 319) (j := 25) (v := .ref (xa X 76)) E ok_63 kc_9 rfl q_801 rfl dX9_hour_319 ?_
      refine r_iload (pc := 322) E dX9_hour_322 rfl ?_
      refine r_iald (pc := 324) (n := 30) E ok_76 rfl h.1 dX9_hour_324 ?_
      have h := h.2
      refine r_aload_n (pc := 325) E dX9_hour_325 rfl rfl ?_
      refine r_get (pc := 326) (j := 22) (v := .ref (xa X 73)) E ok_63 kc_9 rfl q_798 rfl dX9_hour_326 ?_
      refine r_iload (pc := 329) E dX9_hour_329 rfl ?_
      refine r_iald (pc := 331) (n := 30) E ok_73 rfl h.1 dX9_hour_331 ?_
      have h := h.2
      refine r_imul (pc := 332) E dX9_hour_332 ?_
      refine r_iload (pc := 333) E dX9_hour_333 rfl ?_
      refine r_imul (pc := 335) E dX9_hour_335 ?_
      refine r_bipush (pc := 336) (v := 100) E dX9_hour_336 (by decide) ?_
      refine r_idiv (pc := 338) E dX9_hour_338 (by decide) ?_
      refine r_iadd (pc := 339) E dX9_hour_339 ?_
      refine r_put (pc := 340) (j := 9) E ok_63 kc_9 rfl q_785 rfl rfl rfl dX9_hour_340 (fun s19 es19 => ?_)
      have h := h s19 es19
      obtain ⟨x11, ex11⟩ : ∃ z : Int32, z = v6 + 1 := ⟨_, rfl⟩
      have h := h x11 ex11
      refine r_iinc (pc := 343) (v := 1) (lv' := [some (.ref (xa X 63)), none, none, none, some (.int v4), some (.int v5), some (.int x11)]) E dX9_hour_343 rfl (by decide) rfl rfl (by rw [ex11]; rfl) ?_
      refine r_goto (pc := 346) (tgt := 304) E dX9_hour_346 (by decide) ?_
      exact r_forget (le_s (le_n (le_n (le_n (le_s (le_s (le_s le_0))))))) (ih _ _ h)

def w_X9_hour_L380 (v4 : Int32) (v6 : Int32) (K : ST → Prop) (Q : Int32 → ST → Prop) : Nat → ST → Prop
  | 0, _ => False
  | n + 1, s0 => vp_in v6 10 ∧ ((((s0 68 v6.toNatClampNeg) < 1000 → (K s0)) ∧ (¬ ((s0 68 v6.toNatClampNeg) < 1000) → (vp_in v6 10 ∧ (vp_in v6 10 ∧ (∀ s23 : ST, s23 = up s0 68 v6.toNatClampNeg ((s0 68 v6.toNatClampNeg) - 1000) → (w_X9_tear s23 v6 (fun s24 => w_X9_hour_L380 v4 v6 K Q n s24))))))))
set_option maxRecDepth 100000 in
set_option maxHeartbeats 4000000 in
theorem t_X9_hour_L380 {p : Program} {l : Launch} {e : Env} {s : State} {m : MethodId} {args : Array Value} {below : List Frame} {meth : Method} {c : Code} {X : XT} (E : Ev p rm_X9_hour s m args meth c X (xA X) 7 0 0 cX9_hour RX9) (hr : meth.sig.returnType = (some .int)) {v4 : Int32} {v6 : Int32} {K : ST → Prop} {Q : Int32 → ST → Prop} (hK : ∀ (s0 : ST), K s0 → G p l e rm_X9_hour s m args below meth c X (xA X) 7 0 0 (MQ below (va_Qi Q (Bw X) (xA X)) args s 0 0 (xA X)) s0 415 [some (.ref (xa X 63)), none, none, none, some (.int v4), none, some (.int v6)] []) : ∀ (n : Nat) (s0 : ST), w_X9_hour_L380 v4 v6 K Q n s0 → G p l e rm_X9_hour s m args below meth c X (xA X) 7 0 0 (MQ below (va_Qi Q (Bw X) (xA X)) args s 0 0 (xA X)) s0 380 [some (.ref (xa X 63)), none, none, none, some (.int v4), none, some (.int v6)] [] := by
  intro n
  induction n with
  | zero => intro s0 h; exact h.elim
  | succ n ih =>
    intro s0 h
    refine r_aload_n (pc := 380) E dX9_hour_380 rfl rfl ?_
    refine r_get (pc := 381) (j := 15) (v := .ref (xa X 68)) E ok_63 kc_9 rfl q_791 rfl dX9_hour_381 ?_
    refine r_iload (pc := 384) E dX9_hour_384 rfl ?_
    refine r_iald (pc := 386) (n := 10) E ok_68 rfl h.1 dX9_hour_386 ?_
    have h := h.2
    refine r_sipush (pc := 387) (v := 1000) E dX9_hour_387 (by decide) ?_
    refine r_icmp_lt (pc := 390) (tgt := 415) E dX9_hour_390 (by decide) (fun c16 => ?_) (fun c16 => ?_)
    · have h := h.1 c16
      exact r_forget (le_s (le_n (le_n (le_n (le_s (le_n (le_s le_0))))))) (hK _  h)
    · have h := h.2 c16
      refine r_aload_n (pc := 393) E dX9_hour_393 rfl rfl ?_
      refine r_get (pc := 394) (j := 15) (v := .ref (xa X 68)) E ok_63 kc_9 rfl q_791 rfl dX9_hour_394 ?_
      refine r_iload (pc := 397) E dX9_hour_397 rfl ?_
      refine r_dup2 (pc := 399) E dX9_hour_399 rfl rfl ?_
      refine r_iald (pc := 400) (n := 10) E ok_68 rfl h.1 dX9_hour_400 ?_
      have h := h.2
      refine r_sipush (pc := 401) (v := 1000) E dX9_hour_401 (by decide) ?_
      refine r_isub (pc := 404) E dX9_hour_404 ?_
      refine r_iast (pc := 405) (n := 10) E ok_68 rfl h.1 dX9_hour_405 (fun s23 es23 => ?_)
      have h := h.2 s23 es23
      refine r_aload_n (pc := 406) E dX9_hour_406 rfl rfl ?_
      refine r_iload (pc := 407) E dX9_hour_407 rfl ?_
      refine afterV (pc := 409) E (fun H locs ls hP hS hl => runV (As := [.int v6]) (rest := []) E (c_X9_tear X _ _ _  h) ok_63 kc_9.1 ci_X9_tear q_1010 rfl rfl rfl rfl dX9_hour_409 hP hS hl) (fun s24 h => ?_)
      refine r_goto (pc := 412) (tgt := 380) E dX9_hour_412 (by decide) ?_
      exact r_forget (le_s (le_n (le_n (le_n (le_s (le_n (le_s le_0))))))) (ih _  h)

def w_X9_hour_L352 (v4 : Int32) (K : ST → Prop) (Q : Int32 → ST → Prop) : Nat → ST → Int32 → Prop
  | 0, _, _ => False
  | n + 1, s0, v6 => (((s0 63 10) ≤ v6 → (K s0)) ∧ (¬ ((s0 63 10) ≤ v6) → (vp_in v6 10 ∧ (w_X9_standing s0 v6 (fun r8 s21 => vp_in v6 10 ∧ (∀ s22 : ST, s22 = up s21 68 v6.toNatClampNeg ((s0 68 v6.toNatClampNeg) + (v4 * r8)) → (∃ n6 : Nat, w_X9_hour_L380 v4 v6 (fun (s25 : ST) => ∀ x12 : Int32, x12 = v6 + 1 → (w_X9_hour_L352 v4 K Q n s25 x12)) Q n6 s22)))))))
set_option maxRecDepth 100000 in
set_option maxHeartbeats 4000000 in
theorem t_X9_hour_L352 {p : Program} {l : Launch} {e : Env} {s : State} {m : MethodId} {args : Array Value} {below : List Frame} {meth : Method} {c : Code} {X : XT} (E : Ev p rm_X9_hour s m args meth c X (xA X) 7 0 0 cX9_hour RX9) (hr : meth.sig.returnType = (some .int)) {v4 : Int32} {K : ST → Prop} {Q : Int32 → ST → Prop} (hK : ∀ (s0 : ST), K s0 → G p l e rm_X9_hour s m args below meth c X (xA X) 7 0 0 (MQ below (va_Qi Q (Bw X) (xA X)) args s 0 0 (xA X)) s0 421 [some (.ref (xa X 63)), none, none, none, none, none, none] []) : ∀ (n : Nat) (s0 : ST) (v6 : Int32), w_X9_hour_L352 v4 K Q n s0 v6 → G p l e rm_X9_hour s m args below meth c X (xA X) 7 0 0 (MQ below (va_Qi Q (Bw X) (xA X)) args s 0 0 (xA X)) s0 352 [some (.ref (xa X 63)), none, none, none, some (.int v4), none, some (.int v6)] [] := by
  intro n
  induction n with
  | zero => intro s0 v6 h; exact h.elim
  | succ n ih =>
    intro s0 v6 h
    refine r_iload (pc := 352) E dX9_hour_352 rfl ?_
    refine r_aload_n (pc := 354) E dX9_hour_354 rfl rfl ?_
    refine r_get (pc := 355) (j := 10) E ok_63 kc_9 rfl q_786 (svI rfl) dX9_hour_355 ?_
    refine r_icmp_ge (pc := 358) (tgt := 421) E dX9_hour_358 (by decide) (fun c15 => ?_) (fun c15 => ?_)
    · have h := h.1 c15
      exact r_forget (le_s (le_n (le_n (le_n (le_n (le_n (le_n le_0))))))) (hK _  h)
    · have h := h.2 c15
      refine r_aload_n (pc := 361) E dX9_hour_361 rfl rfl ?_
      refine r_get (pc := 362) (j := 15) (v := .ref (xa X 68)) E ok_63 kc_9 rfl q_791 rfl dX9_hour_362 ?_
      refine r_iload (pc := 365) E dX9_hour_365 rfl ?_
      refine r_dup2 (pc := 367) E dX9_hour_367 rfl rfl ?_
      refine r_iald (pc := 368) (n := 10) E ok_68 rfl h.1 dX9_hour_368 ?_
      have h := h.2
      refine r_iload (pc := 369) E dX9_hour_369 rfl ?_
      refine r_aload_n (pc := 371) E dX9_hour_371 rfl rfl ?_
      refine r_iload (pc := 372) E dX9_hour_372 rfl ?_
      refine afterI (pc := 374) E (fun H locs ls hP hS hl => runV (As := [.int v6]) (rest := [.int v4, .int (s0 68 v6.toNatClampNeg), .int v6, .ref (xa X 68)]) E (c_X9_standing X _ _ _  h) ok_63 kc_9.1 ci_X9_standing q_964 rfl rfl rfl rfl dX9_hour_374 hP hS hl) (fun r8 s21 h => ?_)
      refine r_imul (pc := 377) E dX9_hour_377 ?_
      refine r_iadd (pc := 378) E dX9_hour_378 ?_
      refine r_iast (pc := 379) (n := 10) E ok_68 rfl h.1 dX9_hour_379 (fun s22 es22 => ?_)
      have h := h.2 s22 es22
      obtain ⟨n6, h⟩ := h
      refine r_forget (le_s (le_n (le_n (le_n (le_s (le_n (le_s le_0))))))) (t_X9_hour_L380 E hr ?_ n6 _  h)
      intro s25 h
      obtain ⟨x12, ex12⟩ : ∃ z : Int32, z = v6 + 1 := ⟨_, rfl⟩
      have h := h x12 ex12
      refine r_iinc (pc := 415) (v := 1) (lv' := [some (.ref (xa X 63)), none, none, none, some (.int v4), none, some (.int x12)]) E dX9_hour_415 rfl (by decide) rfl rfl (by rw [ex12]; rfl) ?_
      refine r_goto (pc := 418) (tgt := 352) E dX9_hour_418 (by decide) ?_
      exact r_forget (le_s (le_n (le_n (le_n (le_s (le_n (le_s le_0))))))) (ih _ _ h)

def w_X9_hour_L429 (K : ST → Prop) (Q : Int32 → ST → Prop) : Nat → ST → Int32 → Prop
  | 0, _, _ => False
  | n + 1, s0, v6 => ((v6 < 0 → (K s0)) ∧ (¬ (v6 < 0) → (vp_in v6 30 ∧ (vp_in v6 30 ∧ (∀ s27 : ST, s27 = up s0 74 v6.toNatClampNeg ((s0 74 v6.toNatClampNeg) - 1) → (vp_in v6 30 ∧ (((¬ (s27 74 v6.toNatClampNeg) = 0 → (∀ x14 : Int32, x14 = v6 + (-1) → (w_X9_hour_L429 K Q n s27 x14))) ∧ ((s27 74 v6.toNatClampNeg) = 0 → (w_X9_end s27 v6 (fun s28 => ∀ x15 : Int32, x15 = v6 + (-1) → (w_X9_hour_L429 K Q n s28 x15))))))))))))
set_option maxRecDepth 100000 in
set_option maxHeartbeats 4000000 in
theorem t_X9_hour_L429 {p : Program} {l : Launch} {e : Env} {s : State} {m : MethodId} {args : Array Value} {below : List Frame} {meth : Method} {c : Code} {X : XT} (E : Ev p rm_X9_hour s m args meth c X (xA X) 7 0 0 cX9_hour RX9) (hr : meth.sig.returnType = (some .int)) {K : ST → Prop} {Q : Int32 → ST → Prop} (hK : ∀ (s0 : ST), K s0 → G p l e rm_X9_hour s m args below meth c X (xA X) 7 0 0 (MQ below (va_Qi Q (Bw X) (xA X)) args s 0 0 (xA X)) s0 467 [some (.ref (xa X 63)), none, none, none, none, none, none] []) : ∀ (n : Nat) (s0 : ST) (v6 : Int32), w_X9_hour_L429 K Q n s0 v6 → G p l e rm_X9_hour s m args below meth c X (xA X) 7 0 0 (MQ below (va_Qi Q (Bw X) (xA X)) args s 0 0 (xA X)) s0 429 [some (.ref (xa X 63)), none, none, none, none, none, some (.int v6)] [] := by
  intro n
  induction n with
  | zero => intro s0 v6 h; exact h.elim
  | succ n ih =>
    intro s0 v6 h
    refine r_iload (pc := 429) E dX9_hour_429 rfl ?_
    refine r_if_lt (pc := 431) (tgt := 467) E dX9_hour_431 (by decide) (fun c17 => ?_) (fun c17 => ?_)
    · have h := h.1 c17
      exact r_forget (le_s (le_n (le_n (le_n (le_n (le_n (le_n le_0))))))) (hK _  h)
    · have h := h.2 c17
      refine r_aload_n (pc := 434) E dX9_hour_434 rfl rfl ?_
      refine r_get (pc := 435) (j := 23) (v := .ref (xa X 74)) E ok_63 kc_9 rfl q_799 rfl dX9_hour_435 ?_
      refine r_iload (pc := 438) E dX9_hour_438 rfl ?_
      refine r_dup2 (pc := 440) E dX9_hour_440 rfl rfl ?_
      refine r_iald (pc := 441) (n := 30) E ok_74 rfl h.1 dX9_hour_441 ?_
      have h := h.2
      refine r_iconst (pc := 442) (v := 1) E dX9_hour_442 (by decide) ?_
      refine r_isub (pc := 443) E dX9_hour_443 ?_
      refine r_iast (pc := 444) (n := 30) E ok_74 rfl h.1 dX9_hour_444 (fun s27 es27 => ?_)
      have h := h.2 s27 es27
      refine r_aload_n (pc := 445) E dX9_hour_445 rfl rfl ?_
      refine r_get (pc := 446) (j := 23) (v := .ref (xa X 74)) E ok_63 kc_9 rfl q_799 rfl dX9_hour_446 ?_
      refine r_iload (pc := 449) E dX9_hour_449 rfl ?_
      refine r_iald (pc := 451) (n := 30) E ok_74 rfl h.1 dX9_hour_451 ?_
      have h := h.2
      refine r_if_ne (pc := 452) (tgt := 461) E dX9_hour_452 (by decide) (fun c18 => ?_) (fun c18 => ?_)
      · have h := h.1 c18
        obtain ⟨x14, ex14⟩ : ∃ z : Int32, z = v6 + (-1) := ⟨_, rfl⟩
        have h := h x14 ex14
        refine r_iinc (pc := 461) (v := (-1)) (lv' := [some (.ref (xa X 63)), none, none, none, none, none, some (.int x14)]) E dX9_hour_461 rfl (by decide) rfl rfl (by rw [ex14]; rfl) ?_
        refine r_goto (pc := 464) (tgt := 429) E dX9_hour_464 (by decide) ?_
        exact r_forget (le_s (le_n (le_n (le_n (le_n (le_n (le_s le_0))))))) (ih _ _ h)
      · have h := h.2 c18
        refine r_aload_n (pc := 455) E dX9_hour_455 rfl rfl ?_
        refine r_iload (pc := 456) E dX9_hour_456 rfl ?_
        refine afterV (pc := 458) E (fun H locs ls hP hS hl => runV (As := [.int v6]) (rest := []) E (c_X9_end X _ _ _  h) ok_63 kc_9.1 ci_X9_end q_1006 rfl rfl rfl rfl dX9_hour_458 hP hS hl) (fun s28 h => ?_)
        obtain ⟨x15, ex15⟩ : ∃ z : Int32, z = v6 + (-1) := ⟨_, rfl⟩
        have h := h x15 ex15
        refine r_iinc (pc := 461) (v := (-1)) (lv' := [some (.ref (xa X 63)), none, none, none, none, none, some (.int x15)]) E dX9_hour_461 rfl (by decide) rfl rfl (by rw [ex15]; rfl) ?_
        refine r_goto (pc := 464) (tgt := 429) E dX9_hour_464 (by decide) ?_
        exact r_forget (le_s (le_n (le_n (le_n (le_n (le_n (le_s le_0))))))) (ih _ _ h)

def w_X9_hour (s0 : ST) (a1 : Int32) (a2 : Int32) (a3 : Int32) (a4 : Int32) (Q : Int32 → ST → Prop) : Prop := ∀ s1 : ST, s1 = up s0 63 0 0 → (w_X9_in s1 ((a1 : Int32).toInt64) 0 1000 (fun r1 s2 => ((r1 = 0 → (Q (-1000001) s2)) ∧ (¬ (r1 = 0) → (w_X9_in s2 ((a2 : Int32).toInt64) 0 100 (fun r2 s3 => ((r2 = 0 → (Q (-1000001) s3)) ∧ (¬ (r2 = 0) → (w_X9_in s3 ((a3 : Int32).toInt64) 0 60 (fun r3 s4 => ((r3 = 0 → (Q (-1000001) s4)) ∧ (¬ (r3 = 0) → (w_X9_in s4 ((a4 : Int32).toInt64) 0 10 (fun r4 s5 => ((¬ r4 = 0 → (((¬ (s5 63 7) = 5000 → (∀ s6 : ST, s6 = up s5 63 7 ((s5 63 7) + 1) → (∀ s7 : ST, s7 = up s6 63 6 a2 → (∃ n2 : Nat, w_X9_hour_L88 a1 a2 a3 a4 (fun (s14 : ST) => ∃ n3 : Nat, w_X9_hour_L182 a2 a3 a4 (fun (s17 : ST) => ∀ x6 : Int32, x6 = ((s17 63 28) - 1) → (∃ n4 : Nat, w_X9_hour_L265 a3 a4 (fun (s18 : ST) (x10 : Int32) => ∃ n5 : Nat, w_X9_hour_L304 a4 x10 (fun (s20 : ST) => ∃ n7 : Nat, w_X9_hour_L352 a4 (fun (s26 : ST) => ∀ x13 : Int32, x13 = ((s26 63 18) - 1) → (∃ n8 : Nat, w_X9_hour_L429 (fun (s29 : ST) => Q (s29 63 18) s29) Q n8 s26 x13)) Q n7 s20 0) Q n5 s18 0) Q n4 s17 0 x6)) Q n3 s14) Q n2 s7 0)))) ∧ ((s5 63 7) = 5000 → (Q (-1000002) s5))))) ∧ (r4 = 0 → (Q (-1000001) s5)))))))))))))))))
set_option maxRecDepth 100000 in
set_option maxHeartbeats 4000000 in
theorem c_X9_hour {l : Launch} (X : XT) (s0 : ST) (a1 : Int32) (a2 : Int32) (a3 : Int32) (a4 : Int32) (Q : Int32 → ST → Prop) (h : w_X9_hour s0 a1 a2 a3 a4 Q) : MetI l yX9_hour (wS yX9_hour cX9_hour 7 (some .int)) rm_X9_hour X s0 [.ref (xa X 63), .int a1, .int a2, .int a3, .int a4] Q := by
  refine metG (own := RX9) (k := 2) (lv0 := [some (.ref (xa X 63)), some (.int a1), some (.int a2), some (.int a3), some (.int a4), none, none]) (by decide) rfl rfl rfl ?_
  intro p e s m args below meth c E hr
  refine r_aload_n (pc := 0) E dX9_hour_0 rfl rfl ?_
  refine r_iconst (pc := 1) (v := 0) E dX9_hour_1 (by decide) ?_
  refine r_put (pc := 2) (j := 0) E ok_63 kc_9 rfl q_776 rfl rfl rfl dX9_hour_2 (fun s1 es1 => ?_)
  have h := h s1 es1
  refine r_iload_n (pc := 5) E dX9_hour_5 rfl rfl ?_
  refine r_i2l (pc := 6) E dX9_hour_6 ?_
  refine r_lconst (pc := 7) (v := 0) E dX9_hour_7 rfl ?_
  refine r_ldc2 (pc := 8) (v := 1000) E q_1003 dX9_hour_8 ?_
  refine afterI (pc := 11) E (fun H locs ls hP hS hl => runS (As := [.long ((a1 : Int32).toInt64), .long 0, .long 1000]) (rest := []) E (c_X9_in X _ _ _ _ _  h) cs_X9_in q_947 rfl rfl rfl rfl dX9_hour_11 hP hS hl) (fun r1 s2 h => ?_)
  refine r_if_eq (pc := 14) (tgt := 54) E dX9_hour_14 (by decide) (fun c1 => ?_) (fun c1 => ?_)
  · have h := h.1 c1
    refine r_ldc (pc := 54) (v := (-1000001)) E q_951 dX9_hour_54 ?_
    exact r_iret (pc := 56) E hr dX9_hour_56 h
  · have h := h.2 c1
    refine r_iload_n (pc := 17) E dX9_hour_17 rfl rfl ?_
    refine r_i2l (pc := 18) E dX9_hour_18 ?_
    refine r_lconst (pc := 19) (v := 0) E dX9_hour_19 rfl ?_
    refine r_ldc2 (pc := 20) (v := 100) E q_977 dX9_hour_20 ?_
    refine afterI (pc := 23) E (fun H locs ls hP hS hl => runS (As := [.long ((a2 : Int32).toInt64), .long 0, .long 100]) (rest := []) E (c_X9_in X _ _ _ _ _  h) cs_X9_in q_947 rfl rfl rfl rfl dX9_hour_23 hP hS hl) (fun r2 s3 h => ?_)
    refine r_if_eq (pc := 26) (tgt := 54) E dX9_hour_26 (by decide) (fun c2 => ?_) (fun c2 => ?_)
    · have h := h.1 c2
      refine r_ldc (pc := 54) (v := (-1000001)) E q_951 dX9_hour_54 ?_
      exact r_iret (pc := 56) E hr dX9_hour_56 h
    · have h := h.2 c2
      refine r_iload_n (pc := 29) E dX9_hour_29 rfl rfl ?_
      refine r_i2l (pc := 30) E dX9_hour_30 ?_
      refine r_lconst (pc := 31) (v := 0) E dX9_hour_31 rfl ?_
      refine r_ldc2 (pc := 32) (v := 60) E q_1004 dX9_hour_32 ?_
      refine afterI (pc := 35) E (fun H locs ls hP hS hl => runS (As := [.long ((a3 : Int32).toInt64), .long 0, .long 60]) (rest := []) E (c_X9_in X _ _ _ _ _  h) cs_X9_in q_947 rfl rfl rfl rfl dX9_hour_35 hP hS hl) (fun r3 s4 h => ?_)
      refine r_if_eq (pc := 38) (tgt := 54) E dX9_hour_38 (by decide) (fun c3 => ?_) (fun c3 => ?_)
      · have h := h.1 c3
        refine r_ldc (pc := 54) (v := (-1000001)) E q_951 dX9_hour_54 ?_
        exact r_iret (pc := 56) E hr dX9_hour_56 h
      · have h := h.2 c3
        refine r_iload (pc := 41) E dX9_hour_41 rfl ?_
        refine r_i2l (pc := 43) E dX9_hour_43 ?_
        refine r_lconst (pc := 44) (v := 0) E dX9_hour_44 rfl ?_
        refine r_ldc2 (pc := 45) (v := 10) E q_1005 dX9_hour_45 ?_
        refine afterI (pc := 48) E (fun H locs ls hP hS hl => runS (As := [.long ((a4 : Int32).toInt64), .long 0, .long 10]) (rest := []) E (c_X9_in X _ _ _ _ _  h) cs_X9_in q_947 rfl rfl rfl rfl dX9_hour_48 hP hS hl) (fun r4 s5 h => ?_)
        refine r_if_ne (pc := 51) (tgt := 57) E dX9_hour_51 (by decide) (fun c4 => ?_) (fun c4 => ?_)
        · have h := h.1 c4
          refine r_aload_n (pc := 57) E dX9_hour_57 rfl rfl ?_
          refine r_get (pc := 58) (j := 7) E ok_63 kc_9 rfl q_783 (svI rfl) dX9_hour_58 ?_
          refine r_sipush (pc := 61) (v := 5000) E dX9_hour_61 (by decide) ?_
          refine r_icmp_ne (pc := 64) (tgt := 70) E dX9_hour_64 (by decide) (fun c5 => ?_) (fun c5 => ?_)
          · have h := h.1 c5
            refine r_aload_n (pc := 70) E dX9_hour_70 rfl rfl ?_
            refine r_dup (pc := 71) E dX9_hour_71 rfl ?_
            refine r_get (pc := 72) (j := 7) E ok_63 kc_9 rfl q_783 (svI rfl) dX9_hour_72 ?_
            refine r_iconst (pc := 75) (v := 1) E dX9_hour_75 (by decide) ?_
            refine r_iadd (pc := 76) E dX9_hour_76 ?_
            refine r_put (pc := 77) (j := 7) E ok_63 kc_9 rfl q_783 rfl rfl rfl dX9_hour_77 (fun s6 es6 => ?_)
            have h := h s6 es6
            refine r_aload_n (pc := 80) E dX9_hour_80 rfl rfl ?_
            refine r_iload_n (pc := 81) E dX9_hour_81 rfl rfl ?_
            refine r_put (pc := 82) (j := 6) E ok_63 kc_9 rfl q_782 rfl rfl rfl dX9_hour_82 (fun s7 es7 => ?_)
            have h := h s7 es7
            refine r_iconst (pc := 85) (v := 0) E dX9_hour_85 (by decide) ?_
            refine r_istore (pc := 86) (lv' := [some (.ref (xa X 63)), some (.int a1), some (.int a2), some (.int a3), some (.int a4), some (.int 0), none]) E dX9_hour_86 rfl rfl rfl ?_
            obtain ⟨n2, h⟩ := h
            refine r_forget (le_s (le_s (le_s (le_s (le_s (le_s (le_n le_0))))))) (t_X9_hour_L88 E hr ?_ n2 _ _ h)
            intro s14 h
            obtain ⟨n3, h⟩ := h
            refine r_forget (le_s (le_n (le_s (le_s (le_s (le_n (le_n le_0))))))) (t_X9_hour_L182 E hr ?_ n3 _  h)
            intro s17 h
            refine r_iconst (pc := 254) (v := 0) E dX9_hour_254 (by decide) ?_
            refine r_istore (pc := 255) (lv' := [some (.ref (xa X 63)), none, none, some (.int a3), some (.int a4), some (.int 0), none]) E dX9_hour_255 rfl rfl rfl ?_
            refine r_aload_n (pc := 257) E dX9_hour_257 rfl rfl ?_
            refine r_get (pc := 258) (j := 28) E ok_63 kc_9 rfl q_804 (svI rfl) dX9_hour_258 ?_
            refine r_iconst (pc := 261) (v := 1) E dX9_hour_261 (by decide) ?_
            refine r_isub (pc := 262) E dX9_hour_262 ?_
            refine r_topi (fun x6 ex6 => ?_)
            have h := h x6 ex6
            refine r_istore (pc := 263) (lv' := [some (.ref (xa X 63)), none, none, some (.int a3), some (.int a4), some (.int 0), some (.int x6)]) E dX9_hour_263 rfl rfl rfl ?_
            obtain ⟨n4, h⟩ := h
            refine r_forget (le_s (le_n (le_n (le_s (le_s (le_s (le_s le_0))))))) (t_X9_hour_L265 E hr ?_ n4 _ _ _ h)
            intro s18 x10 h
            refine r_iconst (pc := 301) (v := 0) E dX9_hour_301 (by decide) ?_
            refine r_istore (pc := 302) (lv' := [some (.ref (xa X 63)), none, none, none, some (.int a4), some (.int x10), some (.int 0)]) E dX9_hour_302 rfl rfl rfl ?_
            obtain ⟨n5, h⟩ := h
            refine r_forget (le_s (le_n (le_n (le_n (le_s (le_s (le_s le_0))))))) (t_X9_hour_L304 E hr ?_ n5 _ _ h)
            intro s20 h
            refine r_iconst (pc := 349) (v := 0) E dX9_hour_349 (by decide) ?_
            refine r_istore (pc := 350) (lv' := [some (.ref (xa X 63)), none, none, none, some (.int a4), none, some (.int 0)]) E dX9_hour_350 rfl rfl rfl ?_
            obtain ⟨n7, h⟩ := h
            refine r_forget (le_s (le_n (le_n (le_n (le_s (le_n (le_s le_0))))))) (t_X9_hour_L352 E hr ?_ n7 _ _ h)
            intro s26 h
            refine r_aload_n (pc := 421) E dX9_hour_421 rfl rfl ?_
            refine r_get (pc := 422) (j := 18) E ok_63 kc_9 rfl q_794 (svI rfl) dX9_hour_422 ?_
            refine r_iconst (pc := 425) (v := 1) E dX9_hour_425 (by decide) ?_
            refine r_isub (pc := 426) E dX9_hour_426 ?_
            refine r_topi (fun x13 ex13 => ?_)
            have h := h x13 ex13
            refine r_istore (pc := 427) (lv' := [some (.ref (xa X 63)), none, none, none, none, none, some (.int x13)]) E dX9_hour_427 rfl rfl rfl ?_
            obtain ⟨n8, h⟩ := h
            refine r_forget (le_s (le_n (le_n (le_n (le_n (le_n (le_s le_0))))))) (t_X9_hour_L429 E hr ?_ n8 _ _ h)
            intro s29 h
            refine r_aload_n (pc := 467) E dX9_hour_467 rfl rfl ?_
            refine r_get (pc := 468) (j := 18) E ok_63 kc_9 rfl q_794 (svI rfl) dX9_hour_468 ?_
            exact r_iret (pc := 471) E hr dX9_hour_471 h
          · have h := h.2 c5
            refine r_ldc (pc := 67) (v := (-1000002)) E q_963 dX9_hour_67 ?_
            exact r_iret (pc := 69) E hr dX9_hour_69 h
        · have h := h.2 c4
          refine r_ldc (pc := 54) (v := (-1000001)) E q_951 dX9_hour_54 ?_
          exact r_iret (pc := 56) E hr dX9_hour_56 h

/-! ChairFrontModel.feed -/
def rm_X9_feed : Room := { frames := 1, cells := 0, slots := 0, locals := 25 }
theorem ci_X9_feed : CI yX9_feed RX9 cX9_feed 5 (some .int) 2 := ⟨q_1015, q_1016, q_65, q_1017, by decide +kernel⟩
def w_X9_feed_L40 (v1 : Int64) (K : ST → Prop) (Q : Int32 → ST → Prop) : Nat → ST → Int32 → Prop
  | 0, _, _ => False
  | n + 1, s0, v4 => ((v4 < 0 → (K s0)) ∧ (¬ (v4 < 0) → (vp_in (s0 63 42) 300 ∧ (∀ s3 : ST, s3 = up s0 86 (s0 63 42).toNatClampNeg ((((v1 >>> (((8 * v4) : Int32).toInt64 &&& 63)) &&& 255) : Int64).toInt32) → (∀ s4 : ST, s4 = up s3 63 42 ((s3 63 42) + 1) → (∀ x2 : Int32, x2 = v4 + (-1) → (w_X9_feed_L40 v1 K Q n s4 x2)))))))
set_option maxRecDepth 100000 in
set_option maxHeartbeats 4000000 in
theorem t_X9_feed_L40 {p : Program} {l : Launch} {e : Env} {s : State} {m : MethodId} {args : Array Value} {below : List Frame} {meth : Method} {c : Code} {X : XT} (E : Ev p rm_X9_feed s m args meth c X (xA X) 5 0 0 cX9_feed RX9) (hr : meth.sig.returnType = (some .int)) {v1 : Int64} {K : ST → Prop} {Q : Int32 → ST → Prop} (hK : ∀ (s0 : ST), K s0 → G p l e rm_X9_feed s m args below meth c X (xA X) 5 0 0 (MQ below (va_Qi Q (Bw X) (xA X)) args s 0 0 (xA X)) s0 82 [some (.ref (xa X 63)), none, none, none, none] []) : ∀ (n : Nat) (s0 : ST) (v4 : Int32), w_X9_feed_L40 v1 K Q n s0 v4 → G p l e rm_X9_feed s m args below meth c X (xA X) 5 0 0 (MQ below (va_Qi Q (Bw X) (xA X)) args s 0 0 (xA X)) s0 40 [some (.ref (xa X 63)), some (.long v1), none, none, some (.int v4)] [] := by
  intro n
  induction n with
  | zero => intro s0 v4 h; exact h.elim
  | succ n ih =>
    intro s0 v4 h
    refine r_iload (pc := 40) E dX9_feed_40 rfl ?_
    refine r_if_lt (pc := 42) (tgt := 82) E dX9_feed_42 (by decide) (fun c3 => ?_) (fun c3 => ?_)
    · have h := h.1 c3
      exact r_forget (le_s (le_n (le_n (le_n (le_n le_0))))) (hK _  h)
    · have h := h.2 c3
      refine r_aload_n (pc := 45) E dX9_feed_45 rfl rfl ?_
      refine r_get (pc := 46) (j := 41) (v := .ref (xa X 86)) E ok_63 kc_9 rfl q_817 rfl dX9_feed_46 ?_
      refine r_aload_n (pc := 49) E dX9_feed_49 rfl rfl ?_
      refine r_get (pc := 50) (j := 42) E ok_63 kc_9 rfl q_818 (svI rfl) dX9_feed_50 ?_
      refine r_lload_n (pc := 53) E dX9_feed_53 rfl rfl ?_
      refine r_bipush (pc := 54) (v := 8) E dX9_feed_54 (by decide) ?_
      refine r_iload (pc := 56) E dX9_feed_56 rfl ?_
      refine r_imul (pc := 58) E dX9_feed_58 ?_
      refine r_lshr (pc := 59) E dX9_feed_59 ?_
      refine r_ldc2 (pc := 60) (v := 255) E q_1019 dX9_feed_60 ?_
      refine r_land (pc := 63) E dX9_feed_63 ?_
      refine r_l2i (pc := 64) E dX9_feed_64 ?_
      refine r_iast (pc := 65) (n := 300) E ok_86 rfl h.1 dX9_feed_65 (fun s3 es3 => ?_)
      have h := h.2 s3 es3
      refine r_aload_n (pc := 66) E dX9_feed_66 rfl rfl ?_
      refine r_dup (pc := 67) E dX9_feed_67 rfl ?_
      refine r_get (pc := 68) (j := 42) E ok_63 kc_9 rfl q_818 (svI rfl) dX9_feed_68 ?_
      refine r_iconst (pc := 71) (v := 1) E dX9_feed_71 (by decide) ?_
      refine r_iadd (pc := 72) E dX9_feed_72 ?_
      refine r_put (pc := 73) (j := 42) E ok_63 kc_9 rfl q_818 rfl rfl rfl dX9_feed_73 (fun s4 es4 => ?_)
      have h := h s4 es4
      obtain ⟨x2, ex2⟩ : ∃ z : Int32, z = v4 + (-1) := ⟨_, rfl⟩
      have h := h x2 ex2
      refine r_iinc (pc := 76) (v := (-1)) (lv' := [some (.ref (xa X 63)), some (.long v1), none, none, some (.int x2)]) E dX9_feed_76 rfl (by decide) rfl rfl (by rw [ex2]; rfl) ?_
      refine r_goto (pc := 79) (tgt := 40) E dX9_feed_79 (by decide) ?_
      exact r_forget (le_s (le_s (le_n (le_n (le_s le_0))))) (ih _ _ h)

def w_X9_feed (s0 : ST) (a1 : Int64) (a3 : Int32) (Q : Int32 → ST → Prop) : Prop := ∀ s1 : ST, s1 = up s0 63 0 0 → (w_X9_in s1 ((a3 : Int32).toInt64) 1 8 (fun r1 s2 => ((¬ r1 = 0 → (((((s2 63 42) + a3) ≤ 300 → (∀ x1 : Int32, x1 = (a3 - 1) → (∃ n1 : Nat, w_X9_feed_L40 a1 (fun (s5 : ST) => Q (s5 63 42) s5) Q n1 s2 x1))) ∧ (¬ (((s2 63 42) + a3) ≤ 300) → (Q (-1000003) s2))))) ∧ (r1 = 0 → (Q (-1000001) s2)))))
set_option maxRecDepth 100000 in
set_option maxHeartbeats 4000000 in
theorem c_X9_feed {l : Launch} (X : XT) (s0 : ST) (a1 : Int64) (a3 : Int32) (Q : Int32 → ST → Prop) (h : w_X9_feed s0 a1 a3 Q) : MetI l yX9_feed (wS yX9_feed cX9_feed 5 (some .int)) rm_X9_feed X s0 [.ref (xa X 63), .long a1, .int a3] Q := by
  refine metG (own := RX9) (k := 1) (lv0 := [some (.ref (xa X 63)), some (.long a1), none, some (.int a3), none]) (by decide) rfl rfl rfl ?_
  intro p e s m args below meth c E hr
  refine r_aload_n (pc := 0) E dX9_feed_0 rfl rfl ?_
  refine r_iconst (pc := 1) (v := 0) E dX9_feed_1 (by decide) ?_
  refine r_put (pc := 2) (j := 0) E ok_63 kc_9 rfl q_776 rfl rfl rfl dX9_feed_2 (fun s1 es1 => ?_)
  have h := h s1 es1
  refine r_iload_n (pc := 5) E dX9_feed_5 rfl rfl ?_
  refine r_i2l (pc := 6) E dX9_feed_6 ?_
  refine r_lconst (pc := 7) (v := 1) E dX9_feed_7 rfl ?_
  refine r_ldc2 (pc := 8) (v := 8) E q_1018 dX9_feed_8 ?_
  refine afterI (pc := 11) E (fun H locs ls hP hS hl => runS (As := [.long ((a3 : Int32).toInt64), .long 1, .long 8]) (rest := []) E (c_X9_in X _ _ _ _ _  h) cs_X9_in q_947 rfl rfl rfl rfl dX9_feed_11 hP hS hl) (fun r1 s2 h => ?_)
  refine r_if_ne (pc := 14) (tgt := 20) E dX9_feed_14 (by decide) (fun c1 => ?_) (fun c1 => ?_)
  · have h := h.1 c1
    refine r_aload_n (pc := 20) E dX9_feed_20 rfl rfl ?_
    refine r_get (pc := 21) (j := 42) E ok_63 kc_9 rfl q_818 (svI rfl) dX9_feed_21 ?_
    refine r_iload_n (pc := 24) E dX9_feed_24 rfl rfl ?_
    refine r_iadd (pc := 25) E dX9_feed_25 ?_
    refine r_sipush (pc := 26) (v := 300) E dX9_feed_26 (by decide) ?_
    refine r_icmp_le (pc := 29) (tgt := 35) E dX9_feed_29 (by decide) (fun c2 => ?_) (fun c2 => ?_)
    · have h := h.1 c2
      refine r_iload_n (pc := 35) E dX9_feed_35 rfl rfl ?_
      refine r_iconst (pc := 36) (v := 1) E dX9_feed_36 (by decide) ?_
      refine r_isub (pc := 37) E dX9_feed_37 ?_
      refine r_topi (fun x1 ex1 => ?_)
      have h := h x1 ex1
      refine r_istore (pc := 38) (lv' := [some (.ref (xa X 63)), some (.long a1), none, some (.int a3), some (.int x1)]) E dX9_feed_38 rfl rfl rfl ?_
      obtain ⟨n1, h⟩ := h
      refine r_forget (le_s (le_s (le_n (le_n (le_s le_0))))) (t_X9_feed_L40 E hr ?_ n1 _ _ h)
      intro s5 h
      refine r_aload_n (pc := 82) E dX9_feed_82 rfl rfl ?_
      refine r_get (pc := 83) (j := 42) E ok_63 kc_9 rfl q_818 (svI rfl) dX9_feed_83 ?_
      exact r_iret (pc := 86) E hr dX9_feed_86 h
    · have h := h.2 c2
      refine r_ldc (pc := 32) (v := (-1000003)) E q_952 dX9_feed_32 ?_
      exact r_iret (pc := 34) E hr dX9_feed_34 h
  · have h := h.2 c1
    refine r_ldc (pc := 17) (v := (-1000001)) E q_951 dX9_feed_17 ?_
    exact r_iret (pc := 19) E hr dX9_feed_19 h

/-! ChairFrontModel.byteAt -/
def rm_X9_byteAt : Room := { frames := 0, cells := 0, slots := 0, locals := 0 }
theorem ci_X9_byteAt : CI yX9_byteAt RX9 cX9_byteAt 2 (some .int) 1 := ⟨q_1030, q_42, q_65, q_1031, by decide +kernel⟩
def w_X9_byteAt (s0 : ST) (a1 : Int32) (Q : Int32 → ST → Prop) : Prop := (((s0 63 44) ≤ a1 → (Q (-1000000) s0)) ∧ (¬ ((s0 63 44) ≤ a1) → (vp_in a1 300 ∧ (Q (s0 86 a1.toNatClampNeg) s0))))
set_option maxRecDepth 100000 in
set_option maxHeartbeats 4000000 in
theorem c_X9_byteAt {l : Launch} (X : XT) (s0 : ST) (a1 : Int32) (Q : Int32 → ST → Prop) (h : w_X9_byteAt s0 a1 Q) : MetI l yX9_byteAt (wS yX9_byteAt cX9_byteAt 2 (some .int)) rm_X9_byteAt X s0 [.ref (xa X 63), .int a1] Q := by
  refine metG (own := RX9) (k := 0) (lv0 := [some (.ref (xa X 63)), some (.int a1)]) (by decide) rfl rfl rfl ?_
  intro p e s m args below meth c E hr
  refine r_iload_n (pc := 0) E dX9_byteAt_0 rfl rfl ?_
  refine r_aload_n (pc := 1) E dX9_byteAt_1 rfl rfl ?_
  refine r_get (pc := 2) (j := 44) E ok_63 kc_9 rfl q_820 (svI rfl) dX9_byteAt_2 ?_
  refine r_icmp_ge (pc := 5) (tgt := 17) E dX9_byteAt_5 (by decide) (fun c1 => ?_) (fun c1 => ?_)
  · have h := h.1 c1
    refine r_ldc (pc := 17) (v := (-1000000)) E q_957 dX9_byteAt_17 ?_
    exact r_iret (pc := 19) E hr dX9_byteAt_19 h
  · have h := h.2 c1
    refine r_aload_n (pc := 8) E dX9_byteAt_8 rfl rfl ?_
    refine r_get (pc := 9) (j := 41) (v := .ref (xa X 86)) E ok_63 kc_9 rfl q_817 rfl dX9_byteAt_9 ?_
    refine r_iload_n (pc := 12) E dX9_byteAt_12 rfl rfl ?_
    refine r_iald (pc := 13) (n := 300) E ok_86 rfl h.1 dX9_byteAt_13 ?_
    have h := h.2
    refine r_goto (pc := 14) (tgt := 19) E dX9_byteAt_14 (by decide) ?_
    exact r_iret (pc := 19) E hr dX9_byteAt_19 h

/-! ChairFrontModel.isLetter -/
def rm_X9_isLetter : Room := { frames := 0, cells := 0, slots := 0, locals := 0 }
theorem cs_X9_isLetter : CS yX9_isLetter cX9_isLetter 1 (some .boolean) 1 := ⟨q_1033, q_65, q_1034, by decide +kernel⟩
def w_X9_isLetter (s0 : ST) (a0 : Int32) (Q : Int32 → ST → Prop) : Prop := ((a0 < 97 → (Q 0 s0)) ∧ (¬ (a0 < 97) → ((((122 : Int32) < a0 → (Q 0 s0)) ∧ (¬ ((122 : Int32) < a0) → (Q 1 s0))))))
set_option maxRecDepth 100000 in
set_option maxHeartbeats 4000000 in
theorem c_X9_isLetter {l : Launch} (X : XT) (s0 : ST) (a0 : Int32) (Q : Int32 → ST → Prop) (h : w_X9_isLetter s0 a0 Q) : MetI l yX9_isLetter (wS yX9_isLetter cX9_isLetter 1 (some .boolean)) rm_X9_isLetter X s0 [.int a0] Q := by
  refine metG (own := RX9) (k := 0) (lv0 := [some (.int a0)]) (by decide) rfl rfl rfl ?_
  intro p e s m args below meth c E hr
  refine r_iload_n (pc := 0) E dX9_isLetter_0 rfl rfl ?_
  refine r_bipush (pc := 1) (v := 97) E dX9_isLetter_1 (by decide) ?_
  refine r_icmp_lt (pc := 3) (tgt := 16) E dX9_isLetter_3 (by decide) (fun c1 => ?_) (fun c1 => ?_)
  · have h := h.1 c1
    refine r_iconst (pc := 16) (v := 0) E dX9_isLetter_16 (by decide) ?_
    exact r_zret (pc := 17) E hr dX9_isLetter_17 rfl h
  · have h := h.2 c1
    refine r_iload_n (pc := 6) E dX9_isLetter_6 rfl rfl ?_
    refine r_bipush (pc := 7) (v := 122) E dX9_isLetter_7 (by decide) ?_
    refine r_icmp_gt (pc := 9) (tgt := 16) E dX9_isLetter_9 (by decide) (fun c2 => ?_) (fun c2 => ?_)
    · have h := h.1 c2
      refine r_iconst (pc := 16) (v := 0) E dX9_isLetter_16 (by decide) ?_
      exact r_zret (pc := 17) E hr dX9_isLetter_17 rfl h
    · have h := h.2 c2
      refine r_iconst (pc := 12) (v := 1) E dX9_isLetter_12 (by decide) ?_
      refine r_goto (pc := 13) (tgt := 17) E dX9_isLetter_13 (by decide) ?_
      exact r_zret (pc := 17) E hr dX9_isLetter_17 rfl h

/-! ChairFrontModel.isFigure -/
def rm_X9_isFigure : Room := { frames := 0, cells := 0, slots := 0, locals := 0 }
theorem cs_X9_isFigure : CS yX9_isFigure cX9_isFigure 1 (some .boolean) 1 := ⟨q_1036, q_65, q_1037, by decide +kernel⟩
def w_X9_isFigure (s0 : ST) (a0 : Int32) (Q : Int32 → ST → Prop) : Prop := ((a0 < 48 → (Q 0 s0)) ∧ (¬ (a0 < 48) → ((((57 : Int32) < a0 → (Q 0 s0)) ∧ (¬ ((57 : Int32) < a0) → (Q 1 s0))))))
set_option maxRecDepth 100000 in
set_option maxHeartbeats 4000000 in
theorem c_X9_isFigure {l : Launch} (X : XT) (s0 : ST) (a0 : Int32) (Q : Int32 → ST → Prop) (h : w_X9_isFigure s0 a0 Q) : MetI l yX9_isFigure (wS yX9_isFigure cX9_isFigure 1 (some .boolean)) rm_X9_isFigure X s0 [.int a0] Q := by
  refine metG (own := RX9) (k := 0) (lv0 := [some (.int a0)]) (by decide) rfl rfl rfl ?_
  intro p e s m args below meth c E hr
  refine r_iload_n (pc := 0) E dX9_isFigure_0 rfl rfl ?_
  refine r_bipush (pc := 1) (v := 48) E dX9_isFigure_1 (by decide) ?_
  refine r_icmp_lt (pc := 3) (tgt := 16) E dX9_isFigure_3 (by decide) (fun c1 => ?_) (fun c1 => ?_)
  · have h := h.1 c1
    refine r_iconst (pc := 16) (v := 0) E dX9_isFigure_16 (by decide) ?_
    exact r_zret (pc := 17) E hr dX9_isFigure_17 rfl h
  · have h := h.2 c1
    refine r_iload_n (pc := 6) E dX9_isFigure_6 rfl rfl ?_
    refine r_bipush (pc := 7) (v := 57) E dX9_isFigure_7 (by decide) ?_
    refine r_icmp_gt (pc := 9) (tgt := 16) E dX9_isFigure_9 (by decide) (fun c2 => ?_) (fun c2 => ?_)
    · have h := h.1 c2
      refine r_iconst (pc := 16) (v := 0) E dX9_isFigure_16 (by decide) ?_
      exact r_zret (pc := 17) E hr dX9_isFigure_17 rfl h
    · have h := h.2 c2
      refine r_iconst (pc := 12) (v := 1) E dX9_isFigure_12 (by decide) ?_
      refine r_goto (pc := 13) (tgt := 17) E dX9_isFigure_13 (by decide) ?_
      exact r_zret (pc := 17) E hr dX9_isFigure_17 rfl h

/-! ChairFrontModel.step -/
def rm_X9_step : Room := { frames := 1, cells := 0, slots := 0, locals := 21 }
theorem ci_X9_step : CI yX9_step RX9 cX9_step 2 none 0 := ⟨q_1026, q_41, q_65, q_1027, by decide +kernel⟩
def w_X9_step_J26 (T0 : ST → Prop) (T1 : ST → Prop) (Q : ST → Prop) (s0 : ST) : Prop := ∀ s2 : ST, s2 = up s0 63 45 ((s0 63 45) + 1) → (T0 s2)
set_option maxRecDepth 100000 in
set_option maxHeartbeats 4000000 in
theorem t_X9_step_J26 {p : Program} {l : Launch} {e : Env} {s : State} {m : MethodId} {args : Array Value} {below : List Frame} {meth : Method} {c : Code} {X : XT} (E : Ev p rm_X9_step s m args meth c X (xA X) 2 0 0 cX9_step RX9) (hr : meth.sig.returnType = none) {T0 : ST → Prop} {T1 : ST → Prop} {Q : ST → Prop} (hT0 : ∀ (s0 : ST), T0 s0 → G p l e rm_X9_step s m args below meth c X (xA X) 2 0 0 (MQ below (va_Qv Q (Bw X) (xA X)) args s 0 0 (xA X)) s0 0 [some (.ref (xa X 63)), none] []) (hT1 : ∀ (s0 : ST), T1 s0 → G p l e rm_X9_step s m args below meth c X (xA X) 2 0 0 (MQ below (va_Qv Q (Bw X) (xA X)) args s 0 0 (xA X)) s0 39 [some (.ref (xa X 63)), none] []) (s0 : ST) (h : w_X9_step_J26 T0 T1 Q s0) : G p l e rm_X9_step s m args below meth c X (xA X) 2 0 0 (MQ below (va_Qv Q (Bw X) (xA X)) args s 0 0 (xA X)) s0 26 [some (.ref (xa X 63)), none] [] := by
  refine r_aload_n (pc := 26) E dX9_step_26 rfl rfl ?_
  refine r_dup (pc := 27) E dX9_step_27 rfl ?_
  refine r_get (pc := 28) (j := 45) E ok_63 kc_9 rfl q_821 (svI rfl) dX9_step_28 ?_
  refine r_iconst (pc := 31) (v := 1) E dX9_step_31 (by decide) ?_
  refine r_iadd (pc := 32) E dX9_step_32 ?_
  refine r_put (pc := 33) (j := 45) E ok_63 kc_9 rfl q_821 rfl rfl rfl dX9_step_33 (fun s2 es2 => ?_)
  have h := h s2 es2
  refine r_goto (pc := 36) (tgt := 0) E dX9_step_36 (by decide) ?_
  exact r_forget (le_s (le_n le_0)) (hT0 _  h)

def w_X9_step_L0 (K : ST → Prop) (Q : ST → Prop) : Nat → ST → Prop
  | 0, _ => False
  | n + 1, s0 => w_X9_byteAt s0 (s0 63 45) (fun r1 s1 => ((r1 = 32 → (w_X9_step_J26 (w_X9_step_L0 K Q n) K Q s1)) ∧ (¬ (r1 = 32) → (w_X9_byteAt s1 (s1 63 45) (fun r2 s3 => ((¬ r2 = 10 → (K s3)) ∧ (r2 = 10 → (w_X9_step_J26 (w_X9_step_L0 K Q n) K Q s3))))))))
set_option maxRecDepth 100000 in
set_option maxHeartbeats 4000000 in
theorem t_X9_step_L0 {p : Program} {l : Launch} {e : Env} {s : State} {m : MethodId} {args : Array Value} {below : List Frame} {meth : Method} {c : Code} {X : XT} (E : Ev p rm_X9_step s m args meth c X (xA X) 2 0 0 cX9_step RX9) (hr : meth.sig.returnType = none) {K : ST → Prop} {Q : ST → Prop} (hK : ∀ (s0 : ST), K s0 → G p l e rm_X9_step s m args below meth c X (xA X) 2 0 0 (MQ below (va_Qv Q (Bw X) (xA X)) args s 0 0 (xA X)) s0 39 [some (.ref (xa X 63)), none] []) : ∀ (n : Nat) (s0 : ST), w_X9_step_L0 K Q n s0 → G p l e rm_X9_step s m args below meth c X (xA X) 2 0 0 (MQ below (va_Qv Q (Bw X) (xA X)) args s 0 0 (xA X)) s0 0 [some (.ref (xa X 63)), none] [] := by
  intro n
  induction n with
  | zero => intro s0 h; exact h.elim
  | succ n ih =>
    intro s0 h
    refine r_aload_n (pc := 0) E dX9_step_0 rfl rfl ?_
    refine r_aload_n (pc := 1) E dX9_step_1 rfl rfl ?_
    refine r_get (pc := 2) (j := 45) E ok_63 kc_9 rfl q_821 (svI rfl) dX9_step_2 ?_
    refine afterI (pc := 5) E (fun H locs ls hP hS hl => runV (As := [.int (s0 63 45)]) (rest := []) E (c_X9_byteAt X _ _ _  h) ok_63 kc_9.1 ci_X9_byteAt q_1028 rfl rfl rfl rfl dX9_step_5 hP hS hl) (fun r1 s1 h => ?_)
    refine r_bipush (pc := 8) (v := 32) E dX9_step_8 (by decide) ?_
    refine r_icmp_eq (pc := 10) (tgt := 26) E dX9_step_10 (by decide) (fun c1 => ?_) (fun c1 => ?_)
    · have h := h.1 c1
      exact r_forget (le_s (le_n le_0)) (t_X9_step_J26 E hr (fun s0  h => ih s0  h) (fun s0  h => hK s0  h) _  h)
    · have h := h.2 c1
      refine r_aload_n (pc := 13) E dX9_step_13 rfl rfl ?_
      refine r_aload_n (pc := 14) E dX9_step_14 rfl rfl ?_
      refine r_get (pc := 15) (j := 45) E ok_63 kc_9 rfl q_821 (svI rfl) dX9_step_15 ?_
      refine afterI (pc := 18) E (fun H locs ls hP hS hl => runV (As := [.int (s1 63 45)]) (rest := []) E (c_X9_byteAt X _ _ _  h) ok_63 kc_9.1 ci_X9_byteAt q_1028 rfl rfl rfl rfl dX9_step_18 hP hS hl) (fun r2 s3 h => ?_)
      refine r_bipush (pc := 21) (v := 10) E dX9_step_21 (by decide) ?_
      refine r_icmp_ne (pc := 23) (tgt := 39) E dX9_step_23 (by decide) (fun c2 => ?_) (fun c2 => ?_)
      · have h := h.1 c2
        exact r_forget (le_s (le_n le_0)) (hK _  h)
      · have h := h.2 c2
        exact r_forget (le_s (le_n le_0)) (t_X9_step_J26 E hr (fun s0  h => ih s0  h) (fun s0  h => hK s0  h) _  h)

def w_X9_step_J214 (Q : ST → Prop) (s0 : ST) : Prop := ∀ s11 : ST, s11 = up s0 63 48 (s0 63 45) → (Q s11)
set_option maxRecDepth 100000 in
set_option maxHeartbeats 4000000 in
theorem t_X9_step_J214 {p : Program} {l : Launch} {e : Env} {s : State} {m : MethodId} {args : Array Value} {below : List Frame} {meth : Method} {c : Code} {X : XT} (E : Ev p rm_X9_step s m args meth c X (xA X) 2 0 0 cX9_step RX9) (hr : meth.sig.returnType = none) {Q : ST → Prop} (s0 : ST) (h : w_X9_step_J214 Q s0) : G p l e rm_X9_step s m args below meth c X (xA X) 2 0 0 (MQ below (va_Qv Q (Bw X) (xA X)) args s 0 0 (xA X)) s0 214 [some (.ref (xa X 63)), none] [] := by
  refine r_aload_n (pc := 214) E dX9_step_214 rfl rfl ?_
  refine r_aload_n (pc := 215) E dX9_step_215 rfl rfl ?_
  refine r_get (pc := 216) (j := 45) E ok_63 kc_9 rfl q_821 (svI rfl) dX9_step_216 ?_
  refine r_put (pc := 219) (j := 48) E ok_63 kc_9 rfl q_824 rfl rfl rfl dX9_step_219 (fun s11 es11 => ?_)
  have h := h s11 es11
  exact r_vret (pc := 222) E hr dX9_step_222 h

def w_X9_step_J211 (Q : ST → Prop) (s0 : ST) (t1 : Int32) : Prop := ∀ s10 : ST, s10 = up s0 63 46 t1 → (w_X9_step_J214 Q s10)
set_option maxRecDepth 100000 in
set_option maxHeartbeats 4000000 in
theorem t_X9_step_J211 {p : Program} {l : Launch} {e : Env} {s : State} {m : MethodId} {args : Array Value} {below : List Frame} {meth : Method} {c : Code} {X : XT} (E : Ev p rm_X9_step s m args meth c X (xA X) 2 0 0 cX9_step RX9) (hr : meth.sig.returnType = none) {Q : ST → Prop} (s0 : ST) (t1 : Int32) (h : w_X9_step_J211 Q s0 t1) : G p l e rm_X9_step s m args below meth c X (xA X) 2 0 0 (MQ below (va_Qv Q (Bw X) (xA X)) args s 0 0 (xA X)) s0 211 [some (.ref (xa X 63)), none] [.int t1, .ref (xa X 63)] := by
  refine r_put (pc := 211) (j := 46) E ok_63 kc_9 rfl q_822 rfl rfl rfl dX9_step_211 (fun s10 es10 => ?_)
  have h := h s10 es10
  exact r_forget (le_s (le_n le_0)) (t_X9_step_J214 E hr _  h)

def w_X9_step_L137 (K : ST → Prop) (Q : ST → Prop) : Nat → ST → Prop
  | 0, _ => False
  | n + 1, s0 => w_X9_byteAt s0 (s0 63 45) (fun r6 s12 => w_X9_isFigure s12 r6 (fun r7 s13 => ((r7 = 0 → (K s13)) ∧ (¬ (r7 = 0) → (∀ s14 : ST, s14 = up s13 63 45 ((s13 63 45) + 1) → (w_X9_step_L137 K Q n s14))))))
set_option maxRecDepth 100000 in
set_option maxHeartbeats 4000000 in
theorem t_X9_step_L137 {p : Program} {l : Launch} {e : Env} {s : State} {m : MethodId} {args : Array Value} {below : List Frame} {meth : Method} {c : Code} {X : XT} (E : Ev p rm_X9_step s m args meth c X (xA X) 2 0 0 cX9_step RX9) (hr : meth.sig.returnType = none) {K : ST → Prop} {Q : ST → Prop} (hK : ∀ (s0 : ST), K s0 → G p l e rm_X9_step s m args below meth c X (xA X) 2 0 0 (MQ below (va_Qv Q (Bw X) (xA X)) args s 0 0 (xA X)) s0 164 [some (.ref (xa X 63)), none] []) : ∀ (n : Nat) (s0 : ST), w_X9_step_L137 K Q n s0 → G p l e rm_X9_step s m args below meth c X (xA X) 2 0 0 (MQ below (va_Qv Q (Bw X) (xA X)) args s 0 0 (xA X)) s0 137 [some (.ref (xa X 63)), none] [] := by
  intro n
  induction n with
  | zero => intro s0 h; exact h.elim
  | succ n ih =>
    intro s0 h
    refine r_aload_n (pc := 137) E dX9_step_137 rfl rfl ?_
    refine r_aload_n (pc := 138) E dX9_step_138 rfl rfl ?_
    refine r_get (pc := 139) (j := 45) E ok_63 kc_9 rfl q_821 (svI rfl) dX9_step_139 ?_
    refine afterI (pc := 142) E (fun H locs ls hP hS hl => runV (As := [.int (s0 63 45)]) (rest := []) E (c_X9_byteAt X _ _ _  h) ok_63 kc_9.1 ci_X9_byteAt q_1028 rfl rfl rfl rfl dX9_step_142 hP hS hl) (fun r6 s12 h => ?_)
    refine afterI (pc := 145) E (fun H locs ls hP hS hl => runS (As := [.int r6]) (rest := []) E (c_X9_isFigure X _ _ _  h) cs_X9_isFigure q_1035 rfl rfl rfl rfl dX9_step_145 hP hS hl) (fun r7 s13 h => ?_)
    refine r_if_eq (pc := 148) (tgt := 164) E dX9_step_148 (by decide) (fun c7 => ?_) (fun c7 => ?_)
    · have h := h.1 c7
      exact r_forget (le_s (le_n le_0)) (hK _  h)
    · have h := h.2 c7
      refine r_aload_n (pc := 151) E dX9_step_151 rfl rfl ?_
      refine r_dup (pc := 152) E dX9_step_152 rfl ?_
      refine r_get (pc := 153) (j := 45) E ok_63 kc_9 rfl q_821 (svI rfl) dX9_step_153 ?_
      refine r_iconst (pc := 156) (v := 1) E dX9_step_156 (by decide) ?_
      refine r_iadd (pc := 157) E dX9_step_157 ?_
      refine r_put (pc := 158) (j := 45) E ok_63 kc_9 rfl q_821 rfl rfl rfl dX9_step_158 (fun s14 es14 => ?_)
      have h := h s14 es14
      refine r_goto (pc := 161) (tgt := 137) E dX9_step_161 (by decide) ?_
      exact r_forget (le_s (le_n le_0)) (ih _  h)

def w_X9_step_J183 (Q : ST → Prop) (s0 : ST) (t1 : Int32) : Prop := ∀ s16 : ST, s16 = up s0 63 46 t1 → (w_X9_step_J214 Q s16)
set_option maxRecDepth 100000 in
set_option maxHeartbeats 4000000 in
theorem t_X9_step_J183 {p : Program} {l : Launch} {e : Env} {s : State} {m : MethodId} {args : Array Value} {below : List Frame} {meth : Method} {c : Code} {X : XT} (E : Ev p rm_X9_step s m args meth c X (xA X) 2 0 0 cX9_step RX9) (hr : meth.sig.returnType = none) {Q : ST → Prop} (s0 : ST) (t1 : Int32) (h : w_X9_step_J183 Q s0 t1) : G p l e rm_X9_step s m args below meth c X (xA X) 2 0 0 (MQ below (va_Qv Q (Bw X) (xA X)) args s 0 0 (xA X)) s0 183 [some (.ref (xa X 63)), none] [.int t1, .ref (xa X 63)] := by
  refine r_put (pc := 183) (j := 46) E ok_63 kc_9 rfl q_822 rfl rfl rfl dX9_step_183 (fun s16 es16 => ?_)
  have h := h s16 es16
  refine r_goto (pc := 186) (tgt := 214) E dX9_step_186 (by decide) ?_
  exact r_forget (le_s (le_n le_0)) (t_X9_step_J214 E hr _  h)

def w_X9_step_L77 (K : ST → Prop) (Q : ST → Prop) : Nat → ST → Prop
  | 0, _ => False
  | n + 1, s0 => w_X9_byteAt s0 (s0 63 45) (fun r8 s17 => w_X9_isLetter s17 r8 (fun r9 s18 => ((r9 = 0 → (K s18)) ∧ (¬ (r9 = 0) → (∀ s19 : ST, s19 = up s18 63 45 ((s18 63 45) + 1) → (w_X9_step_L77 K Q n s19))))))
set_option maxRecDepth 100000 in
set_option maxHeartbeats 4000000 in
theorem t_X9_step_L77 {p : Program} {l : Launch} {e : Env} {s : State} {m : MethodId} {args : Array Value} {below : List Frame} {meth : Method} {c : Code} {X : XT} (E : Ev p rm_X9_step s m args meth c X (xA X) 2 0 0 cX9_step RX9) (hr : meth.sig.returnType = none) {K : ST → Prop} {Q : ST → Prop} (hK : ∀ (s0 : ST), K s0 → G p l e rm_X9_step s m args below meth c X (xA X) 2 0 0 (MQ below (va_Qv Q (Bw X) (xA X)) args s 0 0 (xA X)) s0 104 [some (.ref (xa X 63)), none] []) : ∀ (n : Nat) (s0 : ST), w_X9_step_L77 K Q n s0 → G p l e rm_X9_step s m args below meth c X (xA X) 2 0 0 (MQ below (va_Qv Q (Bw X) (xA X)) args s 0 0 (xA X)) s0 77 [some (.ref (xa X 63)), none] [] := by
  intro n
  induction n with
  | zero => intro s0 h; exact h.elim
  | succ n ih =>
    intro s0 h
    refine r_aload_n (pc := 77) E dX9_step_77 rfl rfl ?_
    refine r_aload_n (pc := 78) E dX9_step_78 rfl rfl ?_
    refine r_get (pc := 79) (j := 45) E ok_63 kc_9 rfl q_821 (svI rfl) dX9_step_79 ?_
    refine afterI (pc := 82) E (fun H locs ls hP hS hl => runV (As := [.int (s0 63 45)]) (rest := []) E (c_X9_byteAt X _ _ _  h) ok_63 kc_9.1 ci_X9_byteAt q_1028 rfl rfl rfl rfl dX9_step_82 hP hS hl) (fun r8 s17 h => ?_)
    refine afterI (pc := 85) E (fun H locs ls hP hS hl => runS (As := [.int r8]) (rest := []) E (c_X9_isLetter X _ _ _  h) cs_X9_isLetter q_1032 rfl rfl rfl rfl dX9_step_85 hP hS hl) (fun r9 s18 h => ?_)
    refine r_if_eq (pc := 88) (tgt := 104) E dX9_step_88 (by decide) (fun c9 => ?_) (fun c9 => ?_)
    · have h := h.1 c9
      exact r_forget (le_s (le_n le_0)) (hK _  h)
    · have h := h.2 c9
      refine r_aload_n (pc := 91) E dX9_step_91 rfl rfl ?_
      refine r_dup (pc := 92) E dX9_step_92 rfl ?_
      refine r_get (pc := 93) (j := 45) E ok_63 kc_9 rfl q_821 (svI rfl) dX9_step_93 ?_
      refine r_iconst (pc := 96) (v := 1) E dX9_step_96 (by decide) ?_
      refine r_iadd (pc := 97) E dX9_step_97 ?_
      refine r_put (pc := 98) (j := 45) E ok_63 kc_9 rfl q_821 rfl rfl rfl dX9_step_98 (fun s19 es19 => ?_)
      have h := h s19 es19
      refine r_goto (pc := 101) (tgt := 77) E dX9_step_101 (by decide) ?_
      exact r_forget (le_s (le_n le_0)) (ih _  h)

def w_X9_step (s0 : ST) (Q : ST → Prop) : Prop := ∃ n1 : Nat, w_X9_step_L0 (fun (s4 : ST) => ∀ s5 : ST, s5 = up s4 63 47 (s4 63 45) → (w_X9_byteAt s5 (s5 63 45) (fun r3 s6 => ((¬ r3 = (-1000000) → (w_X9_isLetter s6 r3 (fun r4 s7 => ((r4 = 0 → (w_X9_isFigure s7 r3 (fun r5 s8 => ((r5 = 0 → (∀ s9 : ST, s9 = up s8 63 45 ((s8 63 45) + 1) → (((¬ r3 = 59 → (w_X9_step_J211 Q s9 0)) ∧ (r3 = 59 → (w_X9_step_J211 Q s9 4)))))) ∧ (¬ (r5 = 0) → (∃ n2 : Nat, w_X9_step_L137 (fun (s15 : ST) => ((((s15 63 45) - (s15 63 47)) ≤ 5 → (w_X9_step_J183 Q s15 3)) ∧ (¬ (((s15 63 45) - (s15 63 47)) ≤ 5) → (w_X9_step_J183 Q s15 0)))) Q n2 s8)))))) ∧ (¬ (r4 = 0) → (∃ n3 : Nat, w_X9_step_L77 (fun (s20 : ST) => ((((s20 63 45) - (s20 63 47)) ≤ 6 → (∀ s21 : ST, s21 = up s20 63 46 2 → (w_X9_step_J214 Q s21))) ∧ (¬ (((s20 63 45) - (s20 63 47)) ≤ 6) → (∀ s22 : ST, s22 = up s20 63 46 0 → (w_X9_step_J214 Q s22))))) Q n3 s7)))))) ∧ (r3 = (-1000000) → (∀ s23 : ST, s23 = up s6 63 46 1 → (w_X9_step_J214 Q s23))))))) Q n1 s0
set_option maxRecDepth 100000 in
set_option maxHeartbeats 4000000 in
theorem c_X9_step {l : Launch} (X : XT) (s0 : ST) (Q : ST → Prop) (h : w_X9_step s0 Q) : MetV l yX9_step (wS yX9_step cX9_step 2 none) rm_X9_step X s0 [.ref (xa X 63)] Q := by
  refine metG (own := RX9) (k := 1) (lv0 := [some (.ref (xa X 63)), none]) (by decide) rfl rfl rfl ?_
  intro p e s m args below meth c E hr
  obtain ⟨n1, h⟩ := h
  refine r_forget (le_s (le_n le_0)) (t_X9_step_L0 E hr ?_ n1 _  h)
  intro s4 h
  refine r_aload_n (pc := 39) E dX9_step_39 rfl rfl ?_
  refine r_aload_n (pc := 40) E dX9_step_40 rfl rfl ?_
  refine r_get (pc := 41) (j := 45) E ok_63 kc_9 rfl q_821 (svI rfl) dX9_step_41 ?_
  refine r_put (pc := 44) (j := 47) E ok_63 kc_9 rfl q_823 rfl rfl rfl dX9_step_44 (fun s5 es5 => ?_)
  have h := h s5 es5
  refine r_aload_n (pc := 47) E dX9_step_47 rfl rfl ?_
  refine r_aload_n (pc := 48) E dX9_step_48 rfl rfl ?_
  refine r_get (pc := 49) (j := 45) E ok_63 kc_9 rfl q_821 (svI rfl) dX9_step_49 ?_
  refine afterI (pc := 52) E (fun H locs ls hP hS hl => runV (As := [.int (s5 63 45)]) (rest := []) E (c_X9_byteAt X _ _ _  h) ok_63 kc_9.1 ci_X9_byteAt q_1028 rfl rfl rfl rfl dX9_step_52 hP hS hl) (fun r3 s6 h => ?_)
  refine r_istore_n (pc := 55) (lv' := [some (.ref (xa X 63)), some (.int r3)]) E dX9_step_55 rfl rfl rfl rfl ?_
  refine r_iload_n (pc := 56) E dX9_step_56 rfl rfl ?_
  refine r_ldc (pc := 57) (v := (-1000000)) E q_957 dX9_step_57 ?_
  refine r_icmp_ne (pc := 59) (tgt := 70) E dX9_step_59 (by decide) (fun c3 => ?_) (fun c3 => ?_)
  · have h := h.1 c3
    refine r_iload_n (pc := 70) E dX9_step_70 rfl rfl ?_
    refine afterI (pc := 71) E (fun H locs ls hP hS hl => runS (As := [.int r3]) (rest := []) E (c_X9_isLetter X _ _ _  h) cs_X9_isLetter q_1032 rfl rfl rfl rfl dX9_step_71 hP hS hl) (fun r4 s7 h => ?_)
    refine r_if_eq (pc := 74) (tgt := 130) E dX9_step_74 (by decide) (fun c4 => ?_) (fun c4 => ?_)
    · have h := h.1 c4
      refine r_iload_n (pc := 130) E dX9_step_130 rfl rfl ?_
      refine afterI (pc := 131) E (fun H locs ls hP hS hl => runS (As := [.int r3]) (rest := []) E (c_X9_isFigure X _ _ _  h) cs_X9_isFigure q_1035 rfl rfl rfl rfl dX9_step_131 hP hS hl) (fun r5 s8 h => ?_)
      refine r_if_eq (pc := 134) (tgt := 189) E dX9_step_134 (by decide) (fun c5 => ?_) (fun c5 => ?_)
      · have h := h.1 c5
        refine r_aload_n (pc := 189) E dX9_step_189 rfl rfl ?_
        refine r_dup (pc := 190) E dX9_step_190 rfl ?_
        refine r_get (pc := 191) (j := 45) E ok_63 kc_9 rfl q_821 (svI rfl) dX9_step_191 ?_
        refine r_iconst (pc := 194) (v := 1) E dX9_step_194 (by decide) ?_
        refine r_iadd (pc := 195) E dX9_step_195 ?_
        refine r_put (pc := 196) (j := 45) E ok_63 kc_9 rfl q_821 rfl rfl rfl dX9_step_196 (fun s9 es9 => ?_)
        have h := h s9 es9
        refine r_aload_n (pc := 199) E dX9_step_199 rfl rfl ?_
        refine r_iload_n (pc := 200) E dX9_step_200 rfl rfl ?_
        refine r_bipush (pc := 201) (v := 59) E dX9_step_201 (by decide) ?_
        refine r_icmp_ne (pc := 203) (tgt := 210) E dX9_step_203 (by decide) (fun c6 => ?_) (fun c6 => ?_)
        · have h := h.1 c6
          refine r_iconst (pc := 210) (v := 0) E dX9_step_210 (by decide) ?_
          exact r_forget (le_s (le_n le_0)) (t_X9_step_J211 E hr _ _ h)
        · have h := h.2 c6
          refine r_iconst (pc := 206) (v := 4) E dX9_step_206 (by decide) ?_
          refine r_goto (pc := 207) (tgt := 211) E dX9_step_207 (by decide) ?_
          exact r_forget (le_s (le_n le_0)) (t_X9_step_J211 E hr _ _ h)
      · have h := h.2 c5
        obtain ⟨n2, h⟩ := h
        refine r_forget (le_s (le_n le_0)) (t_X9_step_L137 E hr ?_ n2 _  h)
        intro s15 h
        refine r_aload_n (pc := 164) E dX9_step_164 rfl rfl ?_
        refine r_aload_n (pc := 165) E dX9_step_165 rfl rfl ?_
        refine r_get (pc := 166) (j := 45) E ok_63 kc_9 rfl q_821 (svI rfl) dX9_step_166 ?_
        refine r_aload_n (pc := 169) E dX9_step_169 rfl rfl ?_
        refine r_get (pc := 170) (j := 47) E ok_63 kc_9 rfl q_823 (svI rfl) dX9_step_170 ?_
        refine r_isub (pc := 173) E dX9_step_173 ?_
        refine r_iconst (pc := 174) (v := 5) E dX9_step_174 (by decide) ?_
        refine r_icmp_le (pc := 175) (tgt := 182) E dX9_step_175 (by decide) (fun c8 => ?_) (fun c8 => ?_)
        · have h := h.1 c8
          refine r_iconst (pc := 182) (v := 3) E dX9_step_182 (by decide) ?_
          exact r_forget (le_s (le_n le_0)) (t_X9_step_J183 E hr _ _ h)
        · have h := h.2 c8
          refine r_iconst (pc := 178) (v := 0) E dX9_step_178 (by decide) ?_
          refine r_goto (pc := 179) (tgt := 183) E dX9_step_179 (by decide) ?_
          exact r_forget (le_s (le_n le_0)) (t_X9_step_J183 E hr _ _ h)
    · have h := h.2 c4
      obtain ⟨n3, h⟩ := h
      refine r_forget (le_s (le_n le_0)) (t_X9_step_L77 E hr ?_ n3 _  h)
      intro s20 h
      refine r_aload_n (pc := 104) E dX9_step_104 rfl rfl ?_
      refine r_aload_n (pc := 105) E dX9_step_105 rfl rfl ?_
      refine r_get (pc := 106) (j := 45) E ok_63 kc_9 rfl q_821 (svI rfl) dX9_step_106 ?_
      refine r_aload_n (pc := 109) E dX9_step_109 rfl rfl ?_
      refine r_get (pc := 110) (j := 47) E ok_63 kc_9 rfl q_823 (svI rfl) dX9_step_110 ?_
      refine r_isub (pc := 113) E dX9_step_113 ?_
      refine r_bipush (pc := 114) (v := 6) E dX9_step_114 (by decide) ?_
      refine r_icmp_le (pc := 116) (tgt := 123) E dX9_step_116 (by decide) (fun c10 => ?_) (fun c10 => ?_)
      · have h := h.1 c10
        refine r_iconst (pc := 123) (v := 2) E dX9_step_123 (by decide) ?_
        refine r_put (pc := 124) (j := 46) E ok_63 kc_9 rfl q_822 rfl rfl rfl dX9_step_124 (fun s21 es21 => ?_)
        have h := h s21 es21
        refine r_goto (pc := 127) (tgt := 214) E dX9_step_127 (by decide) ?_
        exact r_forget (le_s (le_n le_0)) (t_X9_step_J214 E hr _  h)
      · have h := h.2 c10
        refine r_iconst (pc := 119) (v := 0) E dX9_step_119 (by decide) ?_
        refine r_goto (pc := 120) (tgt := 124) E dX9_step_120 (by decide) ?_
        refine r_put (pc := 124) (j := 46) E ok_63 kc_9 rfl q_822 rfl rfl rfl dX9_step_124 (fun s22 es22 => ?_)
        have h := h s22 es22
        refine r_goto (pc := 127) (tgt := 214) E dX9_step_127 (by decide) ?_
        exact r_forget (le_s (le_n le_0)) (t_X9_step_J214 E hr _  h)
  · have h := h.2 c3
    refine r_aload_n (pc := 62) E dX9_step_62 rfl rfl ?_
    refine r_iconst (pc := 63) (v := 1) E dX9_step_63 (by decide) ?_
    refine r_put (pc := 64) (j := 46) E ok_63 kc_9 rfl q_822 rfl rfl rfl dX9_step_64 (fun s23 es23 => ?_)
    have h := h s23 es23
    refine r_goto (pc := 67) (tgt := 214) E dX9_step_67 (by decide) ?_
    exact r_forget (le_s (le_n le_0)) (t_X9_step_J214 E hr _  h)

/-! ChairFrontModel.bad -/
def rm_X9_bad : Room := { frames := 0, cells := 0, slots := 0, locals := 0 }
theorem ci_X9_bad : CI yX9_bad RX9 cX9_bad 2 none 1 := ⟨q_1050, q_45, q_65, q_1051, by decide +kernel⟩
def w_X9_bad (s0 : ST) (a1 : Int32) (Q : ST → Prop) : Prop := ((¬ (s0 63 49) = 0 → (Q s0)) ∧ ((s0 63 49) = 0 → (∀ s1 : ST, s1 = up s0 63 49 a1 → (∀ s2 : ST, s2 = up s1 63 50 (s1 63 47) → (Q s2)))))
set_option maxRecDepth 100000 in
set_option maxHeartbeats 4000000 in
theorem c_X9_bad {l : Launch} (X : XT) (s0 : ST) (a1 : Int32) (Q : ST → Prop) (h : w_X9_bad s0 a1 Q) : MetV l yX9_bad (wS yX9_bad cX9_bad 2 none) rm_X9_bad X s0 [.ref (xa X 63), .int a1] Q := by
  refine metG (own := RX9) (k := 0) (lv0 := [some (.ref (xa X 63)), some (.int a1)]) (by decide) rfl rfl rfl ?_
  intro p e s m args below meth c E hr
  refine r_aload_n (pc := 0) E dX9_bad_0 rfl rfl ?_
  refine r_get (pc := 1) (j := 49) E ok_63 kc_9 rfl q_825 (svI rfl) dX9_bad_1 ?_
  refine r_if_ne (pc := 4) (tgt := 20) E dX9_bad_4 (by decide) (fun c1 => ?_) (fun c1 => ?_)
  · have h := h.1 c1
    exact r_vret (pc := 20) E hr dX9_bad_20 h
  · have h := h.2 c1
    refine r_aload_n (pc := 7) E dX9_bad_7 rfl rfl ?_
    refine r_iload_n (pc := 8) E dX9_bad_8 rfl rfl ?_
    refine r_put (pc := 9) (j := 49) E ok_63 kc_9 rfl q_825 rfl rfl rfl dX9_bad_9 (fun s1 es1 => ?_)
    have h := h s1 es1
    refine r_aload_n (pc := 12) E dX9_bad_12 rfl rfl ?_
    refine r_aload_n (pc := 13) E dX9_bad_13 rfl rfl ?_
    refine r_get (pc := 14) (j := 47) E ok_63 kc_9 rfl q_823 (svI rfl) dX9_bad_14 ?_
    refine r_put (pc := 17) (j := 50) E ok_63 kc_9 rfl q_826 rfl rfl rfl dX9_bad_17 (fun s2 es2 => ?_)
    have h := h s2 es2
    exact r_vret (pc := 20) E hr dX9_bad_20 h

/-! ChairFrontModel.need -/
def rm_X9_need : Room := { frames := 2, cells := 0, slots := 0, locals := 42 }
theorem ci_X9_need : CI yX9_need RX9 cX9_need 2 none 1 := ⟨q_1055, q_46, q_65, q_1056, by decide +kernel⟩
def w_X9_need (s0 : ST) (a1 : Int32) (Q : ST → Prop) : Prop := ((¬ a1 = 0 → (((¬ (s0 63 49) = 0 → (Q s0)) ∧ ((s0 63 49) = 0 → (w_X9_step s0 (fun s1 => Q s1)))))) ∧ (a1 = 0 → (w_X9_bad s0 1 (fun s2 => ((¬ (s2 63 49) = 0 → (Q s2)) ∧ ((s2 63 49) = 0 → (w_X9_step s2 (fun s3 => Q s3))))))))
set_option maxRecDepth 100000 in
set_option maxHeartbeats 4000000 in
theorem c_X9_need {l : Launch} (X : XT) (s0 : ST) (a1 : Int32) (Q : ST → Prop) (h : w_X9_need s0 a1 Q) : MetV l yX9_need (wS yX9_need cX9_need 2 none) rm_X9_need X s0 [.ref (xa X 63), .int a1] Q := by
  refine metG (own := RX9) (k := 0) (lv0 := [some (.ref (xa X 63)), some (.int a1)]) (by decide) rfl rfl rfl ?_
  intro p e s m args below meth c E hr
  refine r_iload_n (pc := 0) E dX9_need_0 rfl rfl ?_
  refine r_if_ne (pc := 1) (tgt := 9) E dX9_need_1 (by decide) (fun c1 => ?_) (fun c1 => ?_)
  · have h := h.1 c1
    refine r_aload_n (pc := 9) E dX9_need_9 rfl rfl ?_
    refine r_get (pc := 10) (j := 49) E ok_63 kc_9 rfl q_825 (svI rfl) dX9_need_10 ?_
    refine r_if_ne (pc := 13) (tgt := 20) E dX9_need_13 (by decide) (fun c2 => ?_) (fun c2 => ?_)
    · have h := h.1 c2
      exact r_vret (pc := 20) E hr dX9_need_20 h
    · have h := h.2 c2
      refine r_aload_n (pc := 16) E dX9_need_16 rfl rfl ?_
      refine afterV (pc := 17) E (fun H locs ls hP hS hl => runV (As := []) (rest := []) E (c_X9_step X _  _  h) ok_63 kc_9.1 ci_X9_step q_1024 rfl rfl rfl rfl dX9_need_17 hP hS hl) (fun s1 h => ?_)
      exact r_vret (pc := 20) E hr dX9_need_20 h
  · have h := h.2 c1
    refine r_aload_n (pc := 4) E dX9_need_4 rfl rfl ?_
    refine r_iconst (pc := 5) (v := 1) E dX9_need_5 (by decide) ?_
    refine afterV (pc := 6) E (fun H locs ls hP hS hl => runV (As := [.int 1]) (rest := []) E (c_X9_bad X _ _ _  h) ok_63 kc_9.1 ci_X9_bad q_1048 rfl rfl rfl rfl dX9_need_6 hP hS hl) (fun s2 h => ?_)
    refine r_aload_n (pc := 9) E dX9_need_9 rfl rfl ?_
    refine r_get (pc := 10) (j := 49) E ok_63 kc_9 rfl q_825 (svI rfl) dX9_need_10 ?_
    refine r_if_ne (pc := 13) (tgt := 20) E dX9_need_13 (by decide) (fun c3 => ?_) (fun c3 => ?_)
    · have h := h.1 c3
      exact r_vret (pc := 20) E hr dX9_need_20 h
    · have h := h.2 c3
      refine r_aload_n (pc := 16) E dX9_need_16 rfl rfl ?_
      refine afterV (pc := 17) E (fun H locs ls hP hS hl => runV (As := []) (rest := []) E (c_X9_step X _  _  h) ok_63 kc_9.1 ci_X9_step q_1024 rfl rfl rfl rfl dX9_need_17 hP hS hl) (fun s3 h => ?_)
      exact r_vret (pc := 20) E hr dX9_need_20 h

/-! ChairFrontModel.word -/
def rm_X9_word : Room := { frames := 0, cells := 0, slots := 0, locals := 0 }
theorem ci_X9_word : CI yX9_word RX9 cX9_word 4 (some .long) 0 := ⟨q_1044, q_44, q_65, q_1045, by decide +kernel⟩
def w_X9_word_L7 (K : ST → Int64 → Prop) (Q : Int64 → ST → Prop) : Nat → ST → Int64 → Int32 → Prop
  | 0, _, _, _ => False
  | n + 1, s0, v1, v3 => (((s0 63 48) ≤ v3 → (K s0 v1)) ∧ (¬ ((s0 63 48) ≤ v3) → (((¬ (s0 63 46) = 2 → (K s0 v1)) ∧ ((s0 63 46) = 2 → (vp_in v3 300 ∧ (∀ y1 : Int64, y1 = ((v1 <<< ((8 : Int32).toInt64 &&& 63)) ||| ((s0 86 v3.toNatClampNeg) : Int32).toInt64) → (∀ x2 : Int32, x2 = v3 + 1 → (w_X9_word_L7 K Q n s0 y1 x2)))))))))
set_option maxRecDepth 100000 in
set_option maxHeartbeats 4000000 in
theorem t_X9_word_L7 {p : Program} {l : Launch} {e : Env} {s : State} {m : MethodId} {args : Array Value} {below : List Frame} {meth : Method} {c : Code} {X : XT} (E : Ev p rm_X9_word s m args meth c X (xA X) 4 0 0 cX9_word RX9) (hr : meth.sig.returnType = (some .long)) {K : ST → Int64 → Prop} {Q : Int64 → ST → Prop} (hK : ∀ (s0 : ST) (v1 : Int64), K s0 v1 → G p l e rm_X9_word s m args below meth c X (xA X) 4 0 0 (MQ below (va_Ql Q (Bw X) (xA X)) args s 0 0 (xA X)) s0 42 [none, some (.long v1), none, none] []) : ∀ (n : Nat) (s0 : ST) (v1 : Int64) (v3 : Int32), w_X9_word_L7 K Q n s0 v1 v3 → G p l e rm_X9_word s m args below meth c X (xA X) 4 0 0 (MQ below (va_Ql Q (Bw X) (xA X)) args s 0 0 (xA X)) s0 7 [some (.ref (xa X 63)), some (.long v1), none, some (.int v3)] [] := by
  intro n
  induction n with
  | zero => intro s0 v1 v3 h; exact h.elim
  | succ n ih =>
    intro s0 v1 v3 h
    refine r_iload_n (pc := 7) E dX9_word_7 rfl rfl ?_
    refine r_aload_n (pc := 8) E dX9_word_8 rfl rfl ?_
    refine r_get (pc := 9) (j := 48) E ok_63 kc_9 rfl q_824 (svI rfl) dX9_word_9 ?_
    refine r_icmp_ge (pc := 12) (tgt := 42) E dX9_word_12 (by decide) (fun c1 => ?_) (fun c1 => ?_)
    · have h := h.1 c1
      exact r_forget (le_n (le_s (le_n (le_n le_0)))) (hK _ _ h)
    · have h := h.2 c1
      refine r_aload_n (pc := 15) E dX9_word_15 rfl rfl ?_
      refine r_get (pc := 16) (j := 46) E ok_63 kc_9 rfl q_822 (svI rfl) dX9_word_16 ?_
      refine r_iconst (pc := 19) (v := 2) E dX9_word_19 (by decide) ?_
      refine r_icmp_ne (pc := 20) (tgt := 42) E dX9_word_20 (by decide) (fun c2 => ?_) (fun c2 => ?_)
      · have h := h.1 c2
        exact r_forget (le_n (le_s (le_n (le_n le_0)))) (hK _ _ h)
      · have h := h.2 c2
        refine r_lload_n (pc := 23) E dX9_word_23 rfl rfl ?_
        refine r_bipush (pc := 24) (v := 8) E dX9_word_24 (by decide) ?_
        refine r_lshl (pc := 26) E dX9_word_26 ?_
        refine r_aload_n (pc := 27) E dX9_word_27 rfl rfl ?_
        refine r_get (pc := 28) (j := 41) (v := .ref (xa X 86)) E ok_63 kc_9 rfl q_817 rfl dX9_word_28 ?_
        refine r_iload_n (pc := 31) E dX9_word_31 rfl rfl ?_
        refine r_iald (pc := 32) (n := 300) E ok_86 rfl h.1 dX9_word_32 ?_
        have h := h.2
        refine r_i2l (pc := 33) E dX9_word_33 ?_
        refine r_lor (pc := 34) E dX9_word_34 ?_
        refine r_topl (fun y1 ey1 => ?_)
        have h := h y1 ey1
        refine r_lstore_n (pc := 35) (lv' := [some (.ref (xa X 63)), some (.long y1), none, some (.int v3)]) E dX9_word_35 rfl rfl rfl rfl ?_
        obtain ⟨x2, ex2⟩ : ∃ z : Int32, z = v3 + 1 := ⟨_, rfl⟩
        have h := h x2 ex2
        refine r_iinc (pc := 36) (v := 1) (lv' := [some (.ref (xa X 63)), some (.long y1), none, some (.int x2)]) E dX9_word_36 rfl (by decide) rfl rfl (by rw [ex2]; rfl) ?_
        refine r_goto (pc := 39) (tgt := 7) E dX9_word_39 (by decide) ?_
        exact r_forget (le_s (le_s (le_n (le_s le_0)))) (ih _ _ _ h)

def w_X9_word (s0 : ST) (Q : Int64 → ST → Prop) : Prop := ∀ x1 : Int32, x1 = (s0 63 47) → (∃ n1 : Nat, w_X9_word_L7 (fun (s1 : ST) (y2 : Int64) => Q y2 s1) Q n1 s0 0 x1)
set_option maxRecDepth 100000 in
set_option maxHeartbeats 4000000 in
theorem c_X9_word {l : Launch} (X : XT) (s0 : ST) (Q : Int64 → ST → Prop) (h : w_X9_word s0 Q) : MetL l yX9_word (wS yX9_word cX9_word 4 (some .long)) rm_X9_word X s0 [.ref (xa X 63)] Q := by
  refine metG (own := RX9) (k := 3) (lv0 := [some (.ref (xa X 63)), none, none, none]) (by decide) rfl rfl rfl ?_
  intro p e s m args below meth c E hr
  refine r_lconst (pc := 0) (v := 0) E dX9_word_0 rfl ?_
  refine r_lstore_n (pc := 1) (lv' := [some (.ref (xa X 63)), some (.long 0), none, none]) E dX9_word_1 rfl rfl rfl rfl ?_
  refine r_aload_n (pc := 2) E dX9_word_2 rfl rfl ?_
  refine r_get (pc := 3) (j := 47) E ok_63 kc_9 rfl q_823 (svI rfl) dX9_word_3 ?_
  refine r_topi (fun x1 ex1 => ?_)
  have h := h x1 ex1
  refine r_istore_n (pc := 6) (lv' := [some (.ref (xa X 63)), some (.long 0), none, some (.int x1)]) E dX9_word_6 rfl rfl rfl rfl ?_
  obtain ⟨n1, h⟩ := h
  refine r_forget (le_s (le_s (le_n (le_s le_0)))) (t_X9_word_L7 E hr ?_ n1 _ _ _ h)
  intro s1 y2 h
  refine r_lload_n (pc := 42) E dX9_word_42 rfl rfl ?_
  exact r_lret (pc := 43) E hr dX9_word_43 h

/-! ChairFrontModel.numberIn -/
def rm_X9_numberIn : Room := { frames := 3, cells := 0, slots := 0, locals := 63 }
theorem ci_X9_numberIn : CI yX9_numberIn RX9 cX9_numberIn 5 (some .int) 2 := ⟨q_1063, q_47, q_65, q_1064, by decide +kernel⟩
def w_X9_numberIn_L8 (v1 : Int32) (v2 : Int32) (K : ST → Int32 → Prop) (Q : Int32 → ST → Prop) : Nat → ST → Int32 → Int32 → Prop
  | 0, _, _, _ => False
  | n + 1, s0, v3, v4 => (((s0 63 48) ≤ v4 → (K s0 v3)) ∧ (¬ ((s0 63 48) ≤ v4) → (((¬ (s0 63 46) = 3 → (K s0 v3)) ∧ ((s0 63 46) = 3 → (vp_in v4 300 ∧ (∀ x2 : Int32, x2 = (((10 * v3) + (s0 86 v4.toNatClampNeg)) - 48) → (∀ x3 : Int32, x3 = v4 + 1 → (w_X9_numberIn_L8 v1 v2 K Q n s0 x2 x3)))))))))
set_option maxRecDepth 100000 in
set_option maxHeartbeats 4000000 in
theorem t_X9_numberIn_L8 {p : Program} {l : Launch} {e : Env} {s : State} {m : MethodId} {args : Array Value} {below : List Frame} {meth : Method} {c : Code} {X : XT} (E : Ev p rm_X9_numberIn s m args meth c X (xA X) 5 0 0 cX9_numberIn RX9) (hr : meth.sig.returnType = (some .int)) {v1 : Int32} {v2 : Int32} {K : ST → Int32 → Prop} {Q : Int32 → ST → Prop} (hK : ∀ (s0 : ST) (v3 : Int32), K s0 v3 → G p l e rm_X9_numberIn s m args below meth c X (xA X) 5 0 0 (MQ below (va_Qi Q (Bw X) (xA X)) args s 0 0 (xA X)) s0 47 [some (.ref (xa X 63)), some (.int v1), some (.int v2), some (.int v3), none] []) : ∀ (n : Nat) (s0 : ST) (v3 : Int32) (v4 : Int32), w_X9_numberIn_L8 v1 v2 K Q n s0 v3 v4 → G p l e rm_X9_numberIn s m args below meth c X (xA X) 5 0 0 (MQ below (va_Qi Q (Bw X) (xA X)) args s 0 0 (xA X)) s0 8 [some (.ref (xa X 63)), some (.int v1), some (.int v2), some (.int v3), some (.int v4)] [] := by
  intro n
  induction n with
  | zero => intro s0 v3 v4 h; exact h.elim
  | succ n ih =>
    intro s0 v3 v4 h
    refine r_iload (pc := 8) E dX9_numberIn_8 rfl ?_
    refine r_aload_n (pc := 10) E dX9_numberIn_10 rfl rfl ?_
    refine r_get (pc := 11) (j := 48) E ok_63 kc_9 rfl q_824 (svI rfl) dX9_numberIn_11 ?_
    refine r_icmp_ge (pc := 14) (tgt := 47) E dX9_numberIn_14 (by decide) (fun c1 => ?_) (fun c1 => ?_)
    · have h := h.1 c1
      exact r_forget (le_s (le_s (le_s (le_s (le_n le_0))))) (hK _ _ h)
    · have h := h.2 c1
      refine r_aload_n (pc := 17) E dX9_numberIn_17 rfl rfl ?_
      refine r_get (pc := 18) (j := 46) E ok_63 kc_9 rfl q_822 (svI rfl) dX9_numberIn_18 ?_
      refine r_iconst (pc := 21) (v := 3) E dX9_numberIn_21 (by decide) ?_
      refine r_icmp_ne (pc := 22) (tgt := 47) E dX9_numberIn_22 (by decide) (fun c2 => ?_) (fun c2 => ?_)
      · have h := h.1 c2
        exact r_forget (le_s (le_s (le_s (le_s (le_n le_0))))) (hK _ _ h)
      · have h := h.2 c2
        refine r_bipush (pc := 25) (v := 10) E dX9_numberIn_25 (by decide) ?_
        refine r_iload_n (pc := 27) E dX9_numberIn_27 rfl rfl ?_
        refine r_imul (pc := 28) E dX9_numberIn_28 ?_
        refine r_aload_n (pc := 29) E dX9_numberIn_29 rfl rfl ?_
        refine r_get (pc := 30) (j := 41) (v := .ref (xa X 86)) E ok_63 kc_9 rfl q_817 rfl dX9_numberIn_30 ?_
        refine r_iload (pc := 33) E dX9_numberIn_33 rfl ?_
        refine r_iald (pc := 35) (n := 300) E ok_86 rfl h.1 dX9_numberIn_35 ?_
        have h := h.2
        refine r_iadd (pc := 36) E dX9_numberIn_36 ?_
        refine r_bipush (pc := 37) (v := 48) E dX9_numberIn_37 (by decide) ?_
        refine r_isub (pc := 39) E dX9_numberIn_39 ?_
        refine r_topi (fun x2 ex2 => ?_)
        have h := h x2 ex2
        refine r_istore_n (pc := 40) (lv' := [some (.ref (xa X 63)), some (.int v1), some (.int v2), some (.int x2), some (.int v4)]) E dX9_numberIn_40 rfl rfl rfl rfl ?_
        obtain ⟨x3, ex3⟩ : ∃ z : Int32, z = v4 + 1 := ⟨_, rfl⟩
        have h := h x3 ex3
        refine r_iinc (pc := 41) (v := 1) (lv' := [some (.ref (xa X 63)), some (.int v1), some (.int v2), some (.int x2), some (.int x3)]) E dX9_numberIn_41 rfl (by decide) rfl rfl (by rw [ex3]; rfl) ?_
        refine r_goto (pc := 44) (tgt := 8) E dX9_numberIn_44 (by decide) ?_
        exact r_forget (le_s (le_s (le_s (le_s (le_s le_0))))) (ih _ _ _ h)

def w_X9_numberIn (s0 : ST) (a1 : Int32) (a2 : Int32) (Q : Int32 → ST → Prop) : Prop := ∀ x1 : Int32, x1 = (s0 63 47) → (∃ n1 : Nat, w_X9_numberIn_L8 a1 a2 (fun (s1 : ST) (x4 : Int32) => ((¬ (s1 63 46) = 3 → (((¬ (s1 63 46) = 3 → (w_X9_need s1 0 (fun s2 => Q x4 s2))) ∧ ((s1 63 46) = 3 → (w_X9_need s1 1 (fun s3 => Q x4 s3)))))) ∧ ((s1 63 46) = 3 → (w_X9_in s1 ((x4 : Int32).toInt64) ((a1 : Int32).toInt64) ((a2 : Int32).toInt64) (fun r3 s4 => ((¬ r3 = 0 → (((¬ (s4 63 46) = 3 → (w_X9_need s4 0 (fun s5 => Q x4 s5))) ∧ ((s4 63 46) = 3 → (w_X9_need s4 1 (fun s6 => Q x4 s6)))))) ∧ (r3 = 0 → (w_X9_bad s4 2 (fun s7 => ((¬ (s7 63 46) = 3 → (w_X9_need s7 0 (fun s8 => Q x4 s8))) ∧ ((s7 63 46) = 3 → (w_X9_need s7 1 (fun s9 => Q x4 s9))))))))))))) Q n1 s0 0 x1)
set_option maxRecDepth 100000 in
set_option maxHeartbeats 4000000 in
theorem c_X9_numberIn {l : Launch} (X : XT) (s0 : ST) (a1 : Int32) (a2 : Int32) (Q : Int32 → ST → Prop) (h : w_X9_numberIn s0 a1 a2 Q) : MetI l yX9_numberIn (wS yX9_numberIn cX9_numberIn 5 (some .int)) rm_X9_numberIn X s0 [.ref (xa X 63), .int a1, .int a2] Q := by
  refine metG (own := RX9) (k := 2) (lv0 := [some (.ref (xa X 63)), some (.int a1), some (.int a2), none, none]) (by decide) rfl rfl rfl ?_
  intro p e s m args below meth c E hr
  refine r_iconst (pc := 0) (v := 0) E dX9_numberIn_0 (by decide) ?_
  refine r_istore_n (pc := 1) (lv' := [some (.ref (xa X 63)), some (.int a1), some (.int a2), some (.int 0), none]) E dX9_numberIn_1 rfl rfl rfl rfl ?_
  refine r_aload_n (pc := 2) E dX9_numberIn_2 rfl rfl ?_
  refine r_get (pc := 3) (j := 47) E ok_63 kc_9 rfl q_823 (svI rfl) dX9_numberIn_3 ?_
  refine r_topi (fun x1 ex1 => ?_)
  have h := h x1 ex1
  refine r_istore (pc := 6) (lv' := [some (.ref (xa X 63)), some (.int a1), some (.int a2), some (.int 0), some (.int x1)]) E dX9_numberIn_6 rfl rfl rfl ?_
  obtain ⟨n1, h⟩ := h
  refine r_forget (le_s (le_s (le_s (le_s (le_s le_0))))) (t_X9_numberIn_L8 E hr ?_ n1 _ _ _ h)
  intro s1 x4 h
  refine r_aload_n (pc := 47) E dX9_numberIn_47 rfl rfl ?_
  refine r_get (pc := 48) (j := 46) E ok_63 kc_9 rfl q_822 (svI rfl) dX9_numberIn_48 ?_
  refine r_iconst (pc := 51) (v := 3) E dX9_numberIn_51 (by decide) ?_
  refine r_icmp_ne (pc := 52) (tgt := 72) E dX9_numberIn_52 (by decide) (fun c3 => ?_) (fun c3 => ?_)
  · have h := h.1 c3
    refine r_aload_n (pc := 72) E dX9_numberIn_72 rfl rfl ?_
    refine r_aload_n (pc := 73) E dX9_numberIn_73 rfl rfl ?_
    refine r_get (pc := 74) (j := 46) E ok_63 kc_9 rfl q_822 (svI rfl) dX9_numberIn_74 ?_
    refine r_iconst (pc := 77) (v := 3) E dX9_numberIn_77 (by decide) ?_
    refine r_icmp_ne (pc := 78) (tgt := 85) E dX9_numberIn_78 (by decide) (fun c4 => ?_) (fun c4 => ?_)
    · have h := h.1 c4
      refine r_iconst (pc := 85) (v := 0) E dX9_numberIn_85 (by decide) ?_
      refine afterV (pc := 86) E (fun H locs ls hP hS hl => runV (As := [.int 0]) (rest := []) E (c_X9_need X _ _ _  h) ok_63 kc_9.1 ci_X9_need q_1053 rfl rfl rfl rfl dX9_numberIn_86 hP hS hl) (fun s2 h => ?_)
      refine r_iload_n (pc := 89) E dX9_numberIn_89 rfl rfl ?_
      exact r_iret (pc := 90) E hr dX9_numberIn_90 h
    · have h := h.2 c4
      refine r_iconst (pc := 81) (v := 1) E dX9_numberIn_81 (by decide) ?_
      refine r_goto (pc := 82) (tgt := 86) E dX9_numberIn_82 (by decide) ?_
      refine afterV (pc := 86) E (fun H locs ls hP hS hl => runV (As := [.int 1]) (rest := []) E (c_X9_need X _ _ _  h) ok_63 kc_9.1 ci_X9_need q_1053 rfl rfl rfl rfl dX9_numberIn_86 hP hS hl) (fun s3 h => ?_)
      refine r_iload_n (pc := 89) E dX9_numberIn_89 rfl rfl ?_
      exact r_iret (pc := 90) E hr dX9_numberIn_90 h
  · have h := h.2 c3
    refine r_iload_n (pc := 55) E dX9_numberIn_55 rfl rfl ?_
    refine r_i2l (pc := 56) E dX9_numberIn_56 ?_
    refine r_iload_n (pc := 57) E dX9_numberIn_57 rfl rfl ?_
    refine r_i2l (pc := 58) E dX9_numberIn_58 ?_
    refine r_iload_n (pc := 59) E dX9_numberIn_59 rfl rfl ?_
    refine r_i2l (pc := 60) E dX9_numberIn_60 ?_
    refine afterI (pc := 61) E (fun H locs ls hP hS hl => runS (As := [.long ((x4 : Int32).toInt64), .long ((a1 : Int32).toInt64), .long ((a2 : Int32).toInt64)]) (rest := []) E (c_X9_in X _ _ _ _ _  h) cs_X9_in q_947 rfl rfl rfl rfl dX9_numberIn_61 hP hS hl) (fun r3 s4 h => ?_)
    refine r_if_ne (pc := 64) (tgt := 72) E dX9_numberIn_64 (by decide) (fun c5 => ?_) (fun c5 => ?_)
    · have h := h.1 c5
      refine r_aload_n (pc := 72) E dX9_numberIn_72 rfl rfl ?_
      refine r_aload_n (pc := 73) E dX9_numberIn_73 rfl rfl ?_
      refine r_get (pc := 74) (j := 46) E ok_63 kc_9 rfl q_822 (svI rfl) dX9_numberIn_74 ?_
      refine r_iconst (pc := 77) (v := 3) E dX9_numberIn_77 (by decide) ?_
      refine r_icmp_ne (pc := 78) (tgt := 85) E dX9_numberIn_78 (by decide) (fun c6 => ?_) (fun c6 => ?_)
      · have h := h.1 c6
        refine r_iconst (pc := 85) (v := 0) E dX9_numberIn_85 (by decide) ?_
        refine afterV (pc := 86) E (fun H locs ls hP hS hl => runV (As := [.int 0]) (rest := []) E (c_X9_need X _ _ _  h) ok_63 kc_9.1 ci_X9_need q_1053 rfl rfl rfl rfl dX9_numberIn_86 hP hS hl) (fun s5 h => ?_)
        refine r_iload_n (pc := 89) E dX9_numberIn_89 rfl rfl ?_
        exact r_iret (pc := 90) E hr dX9_numberIn_90 h
      · have h := h.2 c6
        refine r_iconst (pc := 81) (v := 1) E dX9_numberIn_81 (by decide) ?_
        refine r_goto (pc := 82) (tgt := 86) E dX9_numberIn_82 (by decide) ?_
        refine afterV (pc := 86) E (fun H locs ls hP hS hl => runV (As := [.int 1]) (rest := []) E (c_X9_need X _ _ _  h) ok_63 kc_9.1 ci_X9_need q_1053 rfl rfl rfl rfl dX9_numberIn_86 hP hS hl) (fun s6 h => ?_)
        refine r_iload_n (pc := 89) E dX9_numberIn_89 rfl rfl ?_
        exact r_iret (pc := 90) E hr dX9_numberIn_90 h
    · have h := h.2 c5
      refine r_aload_n (pc := 67) E dX9_numberIn_67 rfl rfl ?_
      refine r_iconst (pc := 68) (v := 2) E dX9_numberIn_68 (by decide) ?_
      refine afterV (pc := 69) E (fun H locs ls hP hS hl => runV (As := [.int 2]) (rest := []) E (c_X9_bad X _ _ _  h) ok_63 kc_9.1 ci_X9_bad q_1048 rfl rfl rfl rfl dX9_numberIn_69 hP hS hl) (fun s7 h => ?_)
      refine r_aload_n (pc := 72) E dX9_numberIn_72 rfl rfl ?_
      refine r_aload_n (pc := 73) E dX9_numberIn_73 rfl rfl ?_
      refine r_get (pc := 74) (j := 46) E ok_63 kc_9 rfl q_822 (svI rfl) dX9_numberIn_74 ?_
      refine r_iconst (pc := 77) (v := 3) E dX9_numberIn_77 (by decide) ?_
      refine r_icmp_ne (pc := 78) (tgt := 85) E dX9_numberIn_78 (by decide) (fun c7 => ?_) (fun c7 => ?_)
      · have h := h.1 c7
        refine r_iconst (pc := 85) (v := 0) E dX9_numberIn_85 (by decide) ?_
        refine afterV (pc := 86) E (fun H locs ls hP hS hl => runV (As := [.int 0]) (rest := []) E (c_X9_need X _ _ _  h) ok_63 kc_9.1 ci_X9_need q_1053 rfl rfl rfl rfl dX9_numberIn_86 hP hS hl) (fun s8 h => ?_)
        refine r_iload_n (pc := 89) E dX9_numberIn_89 rfl rfl ?_
        exact r_iret (pc := 90) E hr dX9_numberIn_90 h
      · have h := h.2 c7
        refine r_iconst (pc := 81) (v := 1) E dX9_numberIn_81 (by decide) ?_
        refine r_goto (pc := 82) (tgt := 86) E dX9_numberIn_82 (by decide) ?_
        refine afterV (pc := 86) E (fun H locs ls hP hS hl => runV (As := [.int 1]) (rest := []) E (c_X9_need X _ _ _  h) ok_63 kc_9.1 ci_X9_need q_1053 rfl rfl rfl rfl dX9_numberIn_86 hP hS hl) (fun s9 h => ?_)
        refine r_iload_n (pc := 89) E dX9_numberIn_89 rfl rfl ?_
        exact r_iret (pc := 90) E hr dX9_numberIn_90 h

