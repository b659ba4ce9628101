/-! the law's loop -/
section LW
variable {p : Program} {l : Launch} {e : Env} {R : Room} {s : State} {m : MethodId} {args : Array Value} {below : List Frame} {meth : Method} {c : Code} {X : XT} {A : Nat → Prop} {nL cells slots : Nat} {Qf : State → Prop} {cc : ByteArray} {own : String} {σ : ST} {pc : Nat} {lv lv' : List (Option Value)} {st : List Value}
theorem r_sld (E : Ev p R s m args meth c X A nL cells slots cc own) {b L : Nat} {xs : Nat → Int32} (HX : va_X b L xs s s.heap ∧ b < s.heap.size ∧ ¬ A b) {i : Int32} (hi : vp_in i L) (hd : decode cc pc = .ok (.iaload, 1)) (kk : G p l e R s m args below meth c X A nL cells slots Qf σ (pc + 1) lv (.int (xs i.toNatClampNeg) :: st)) : G p l e R s m args below meth c X A nL cells slots Qf σ pc lv (.int i :: .ref b :: st) :=
  fun H locs ls hP hS hl => va_sld E.x E.b HX.1 HX.2.1 HX.2.2 hS hi hd (kk H locs ls hP hS hl)
theorem r_slen (E : Ev p R s m args meth c X A nL cells slots cc own) {b L : Nat} {xs : Nat → Int32} (HX : va_X b L xs s s.heap ∧ b < s.heap.size ∧ ¬ A b) (hd : decode cc pc = .ok (.arraylength, 1)) (kk : G p l e R s m args below meth c X A nL cells slots Qf σ (pc + 1) lv (.int (nI L) :: st)) : G p l e R s m args below meth c X A nL cells slots Qf σ pc lv (.ref b :: st) :=
  fun H locs ls hP hS hl => va_slen E.x E.b HX.1 HX.2.1 HX.2.2 hS hd (kk H locs ls hP hS hl)
end LW
def w_law (L : Nat) (xs : Nat → Int32) (K : ST → Prop) : Nat → ST → Int32 → Prop
  | 0, _, _ => False
  | n + 1, s0, v3 => ((((nI L) - 5) < v3 → (K s0)) ∧ (¬ (((nI L) - 5) < v3) → (vp_in v3 L ∧ (((((xs v3.toNatClampNeg) &&& 31) = 0 → (vp_in (v3 + 1) L ∧ (vp_in (v3 + 2) L ∧ (w_X8_stretch s0 (xs (v3 + 1).toNatClampNeg) (xs (v3 + 2).toNatClampNeg) (fun r1 s1 => vp_in (v3 + 1) L ∧ (vp_in (v3 + 2) L ∧ (w_X9_stretch s1 (xs (v3 + 1).toNatClampNeg) (xs (v3 + 2).toNatClampNeg) (fun r2 s2 => ((r1 = r2 → (∀ x1 : Int32, x1 = v3 + 5 → (w_law L xs K n s2 x1))) ∧ (¬ (r1 = r2) → (False))))))))))) ∧ (¬ ((xs v3.toNatClampNeg) &&& 31) = 0 → ((((xs v3.toNatClampNeg) &&& 31) = 1 → (vp_in (v3 + 1) L ∧ (vp_in (v3 + 2) L ∧ (vp_in (v3 + 3) L ∧ (w_X8_carry s0 (xs (v3 + 1).toNatClampNeg) (xs (v3 + 2).toNatClampNeg) (xs (v3 + 3).toNatClampNeg) (fun r3 s3 => vp_in (v3 + 1) L ∧ (vp_in (v3 + 2) L ∧ (vp_in (v3 + 3) L ∧ (w_X9_carry s3 (xs (v3 + 1).toNatClampNeg) (xs (v3 + 2).toNatClampNeg) (xs (v3 + 3).toNatClampNeg) (fun r4 s4 => ((r3 = r4 → (∀ x2 : Int32, x2 = v3 + 5 → (w_law L xs K n s4 x2))) ∧ (¬ (r3 = r4) → (False))))))))))))) ∧ (¬ ((xs v3.toNatClampNeg) &&& 31) = 1 → ((((xs v3.toNatClampNeg) &&& 31) = 2 → (vp_in (v3 + 1) L ∧ (vp_in (v3 + 2) L ∧ (w_X8_told s0 (xs (v3 + 1).toNatClampNeg) (xs (v3 + 2).toNatClampNeg) (fun r5 s5 => vp_in (v3 + 1) L ∧ (vp_in (v3 + 2) L ∧ (w_X9_told s5 (xs (v3 + 1).toNatClampNeg) (xs (v3 + 2).toNatClampNeg) (fun r6 s6 => ((r5 = r6 → (∀ x3 : Int32, x3 = v3 + 5 → (w_law L xs K n s6 x3))) ∧ (¬ (r5 = r6) → (False))))))))))) ∧ (¬ ((xs v3.toNatClampNeg) &&& 31) = 2 → ((((xs v3.toNatClampNeg) &&& 31) = 3 → (vp_in (v3 + 1) L ∧ (vp_in (v3 + 2) L ∧ (w_X8_rule s0 (xs (v3 + 1).toNatClampNeg) (xs (v3 + 2).toNatClampNeg) (fun r7 s7 => vp_in (v3 + 1) L ∧ (vp_in (v3 + 2) L ∧ (w_X9_rule s7 (xs (v3 + 1).toNatClampNeg) (xs (v3 + 2).toNatClampNeg) (fun r8 s8 => ((r7 = r8 → (∀ x4 : Int32, x4 = v3 + 5 → (w_law L xs K n s8 x4))) ∧ (¬ (r7 = r8) → (False))))))))))) ∧ (¬ ((xs v3.toNatClampNeg) &&& 31) = 3 → ((((xs v3.toNatClampNeg) &&& 31) = 4 → (vp_in (v3 + 1) L ∧ (w_X8_mend s0 (xs (v3 + 1).toNatClampNeg) (fun r9 s9 => vp_in (v3 + 1) L ∧ (w_X9_mend s9 (xs (v3 + 1).toNatClampNeg) (fun r10 s10 => ((r9 = r10 → (∀ x5 : Int32, x5 = v3 + 5 → (w_law L xs K n s10 x5))) ∧ (¬ (r9 = r10) → (False))))))))) ∧ (¬ ((xs v3.toNatClampNeg) &&& 31) = 4 → ((((xs v3.toNatClampNeg) &&& 31) = 5 → (vp_in (v3 + 1) L ∧ (vp_in (v3 + 2) L ∧ (vp_in (v3 + 3) L ∧ (w_X8_hire s0 (xs (v3 + 1).toNatClampNeg) (xs (v3 + 2).toNatClampNeg) (xs (v3 + 3).toNatClampNeg) (fun r11 s11 => vp_in (v3 + 1) L ∧ (vp_in (v3 + 2) L ∧ (vp_in (v3 + 3) L ∧ (w_X9_hire s11 (xs (v3 + 1).toNatClampNeg) (xs (v3 + 2).toNatClampNeg) (xs (v3 + 3).toNatClampNeg) (fun r12 s12 => ((r11 = r12 → (∀ x6 : Int32, x6 = v3 + 5 → (w_law L xs K n s12 x6))) ∧ (¬ (r11 = r12) → (False))))))))))))) ∧ (¬ ((xs v3.toNatClampNeg) &&& 31) = 5 → ((((xs v3.toNatClampNeg) &&& 31) = 6 → (vp_in (v3 + 1) L ∧ (vp_in (v3 + 2) L ∧ (w_X8_shift s0 (xs (v3 + 1).toNatClampNeg) (xs (v3 + 2).toNatClampNeg) (fun r13 s13 => vp_in (v3 + 1) L ∧ (vp_in (v3 + 2) L ∧ (w_X9_shift s13 (xs (v3 + 1).toNatClampNeg) (xs (v3 + 2).toNatClampNeg) (fun r14 s14 => ((r13 = r14 → (∀ x7 : Int32, x7 = v3 + 5 → (w_law L xs K n s14 x7))) ∧ (¬ (r13 = r14) → (False))))))))))) ∧ (¬ ((xs v3.toNatClampNeg) &&& 31) = 6 → ((((xs v3.toNatClampNeg) &&& 31) = 7 → (vp_in (v3 + 1) L ∧ (vp_in (v3 + 2) L ∧ (w_X8_ticket s0 (xs (v3 + 1).toNatClampNeg) (xs (v3 + 2).toNatClampNeg) (fun r15 s15 => vp_in (v3 + 1) L ∧ (vp_in (v3 + 2) L ∧ (w_X9_ticket s15 (xs (v3 + 1).toNatClampNeg) (xs (v3 + 2).toNatClampNeg) (fun r16 s16 => ((r15 = r16 → (∀ x8 : Int32, x8 = v3 + 5 → (w_law L xs K n s16 x8))) ∧ (¬ (r15 = r16) → (False))))))))))) ∧ (¬ ((xs v3.toNatClampNeg) &&& 31) = 7 → ((((xs v3.toNatClampNeg) &&& 31) = 8 → (vp_in (v3 + 1) L ∧ (vp_in (v3 + 2) L ∧ (vp_in (v3 + 3) L ∧ (vp_in (v3 + 4) L ∧ (w_X8_hour s0 (xs (v3 + 1).toNatClampNeg) (xs (v3 + 2).toNatClampNeg) (xs (v3 + 3).toNatClampNeg) (xs (v3 + 4).toNatClampNeg) (fun r17 s17 => vp_in (v3 + 1) L ∧ (vp_in (v3 + 2) L ∧ (vp_in (v3 + 3) L ∧ (vp_in (v3 + 4) L ∧ (w_X9_hour s17 (xs (v3 + 1).toNatClampNeg) (xs (v3 + 2).toNatClampNeg) (xs (v3 + 3).toNatClampNeg) (xs (v3 + 4).toNatClampNeg) (fun r18 s18 => ((r17 = r18 → (∀ x9 : Int32, x9 = v3 + 5 → (w_law L xs K n s18 x9))) ∧ (¬ (r17 = r18) → (False))))))))))))))) ∧ (¬ ((xs v3.toNatClampNeg) &&& 31) = 8 → ((((xs v3.toNatClampNeg) &&& 31) = 9 → (vp_in (v3 + 1) L ∧ (vp_in (v3 + 2) L ∧ (vp_in (v3 + 3) L ∧ (w_X8_feed s0 ((((xs (v3 + 1).toNatClampNeg) : Int32).toInt64 <<< ((32 : Int32).toInt64 &&& 63)) ||| (((xs (v3 + 2).toNatClampNeg) : Int32).toInt64 &&& 4294967295)) (xs (v3 + 3).toNatClampNeg) (fun r19 s19 => vp_in (v3 + 1) L ∧ (vp_in (v3 + 2) L ∧ (vp_in (v3 + 3) L ∧ (w_X9_feed s19 ((((xs (v3 + 1).toNatClampNeg) : Int32).toInt64 <<< ((32 : Int32).toInt64 &&& 63)) ||| (((xs (v3 + 2).toNatClampNeg) : Int32).toInt64 &&& 4294967295)) (xs (v3 + 3).toNatClampNeg) (fun r20 s20 => ((r19 = r20 → (∀ x10 : Int32, x10 = v3 + 5 → (w_law L xs K n s20 x10))) ∧ (¬ (r19 = r20) → (False))))))))))))) ∧ (¬ ((xs v3.toNatClampNeg) &&& 31) = 9 → ((((xs v3.toNatClampNeg) &&& 31) = 10 → (w_X8_rules s0 (fun r21 s21 => w_X9_rules s21 (fun r22 s22 => ((r21 = r22 → (∀ x11 : Int32, x11 = v3 + 5 → (w_law L xs K n s22 x11))) ∧ (¬ (r21 = r22) → (False))))))) ∧ (¬ ((xs v3.toNatClampNeg) &&& 31) = 10 → ((((xs v3.toNatClampNeg) &&& 31) = 11 → (w_X8_fault s0 (fun r23 s23 => w_X9_fault s23 (fun r24 s24 => ((r23 = r24 → (∀ x12 : Int32, x12 = v3 + 5 → (w_law L xs K n s24 x12))) ∧ (¬ (r23 = r24) → (False))))))) ∧ (¬ ((xs v3.toNatClampNeg) &&& 31) = 11 → ((((xs v3.toNatClampNeg) &&& 31) = 12 → (vp_in (v3 + 1) L ∧ (w_X8_rent s0 (xs (v3 + 1).toNatClampNeg) (fun r25 s25 => vp_in (v3 + 1) L ∧ (w_X9_rent s25 (xs (v3 + 1).toNatClampNeg) (fun r26 s26 => ((r25 = r26 → (∀ x13 : Int32, x13 = v3 + 5 → (w_law L xs K n s26 x13))) ∧ (¬ (r25 = r26) → (False))))))))) ∧ (¬ ((xs v3.toNatClampNeg) &&& 31) = 12 → ((((xs v3.toNatClampNeg) &&& 31) = 13 → (vp_in (v3 + 1) L ∧ (vp_in (v3 + 2) L ∧ (vp_in (v3 + 3) L ∧ (w_X8_unpaid s0 (xs (v3 + 1).toNatClampNeg) (xs (v3 + 2).toNatClampNeg) (xs (v3 + 3).toNatClampNeg) (fun r27 s27 => vp_in (v3 + 1) L ∧ (vp_in (v3 + 2) L ∧ (vp_in (v3 + 3) L ∧ (w_X9_unpaid s27 (xs (v3 + 1).toNatClampNeg) (xs (v3 + 2).toNatClampNeg) (xs (v3 + 3).toNatClampNeg) (fun r28 s28 => ((r27 = r28 → (∀ x14 : Int32, x14 = v3 + 5 → (w_law L xs K n s28 x14))) ∧ (¬ (r27 = r28) → (False))))))))))))) ∧ (¬ ((xs v3.toNatClampNeg) &&& 31) = 13 → ((((xs v3.toNatClampNeg) &&& 31) = 14 → (vp_in (v3 + 1) L ∧ (vp_in (v3 + 2) L ∧ (w_X8_walk s0 (xs (v3 + 1).toNatClampNeg) (xs (v3 + 2).toNatClampNeg) (fun r29 s29 => vp_in (v3 + 1) L ∧ (vp_in (v3 + 2) L ∧ (w_X9_walk s29 (xs (v3 + 1).toNatClampNeg) (xs (v3 + 2).toNatClampNeg) (fun r30 s30 => ((r29 = r30 → (∀ x15 : Int32, x15 = v3 + 5 → (w_law L xs K n s30 x15))) ∧ (¬ (r29 = r30) → (False))))))))))) ∧ (¬ ((xs v3.toNatClampNeg) &&& 31) = 14 → ((((xs v3.toNatClampNeg) &&& 31) = 15 → (vp_in (v3 + 1) L ∧ (w_X8_kind s0 (xs (v3 + 1).toNatClampNeg) (fun r31 s31 => vp_in (v3 + 1) L ∧ (w_X9_kind s31 (xs (v3 + 1).toNatClampNeg) (fun r32 s32 => ((r31 = r32 → (∀ x16 : Int32, x16 = v3 + 5 → (w_law L xs K n s32 x16))) ∧ (¬ (r31 = r32) → (False))))))))) ∧ (¬ ((xs v3.toNatClampNeg) &&& 31) = 15 → ((((xs v3.toNatClampNeg) &&& 31) = 16 → (vp_in (v3 + 1) L ∧ (vp_in (v3 + 2) L ∧ (w_X8_as s0 (xs (v3 + 1).toNatClampNeg) (xs (v3 + 2).toNatClampNeg) (fun r33 s33 => vp_in (v3 + 1) L ∧ (vp_in (v3 + 2) L ∧ (w_X9_as s33 (xs (v3 + 1).toNatClampNeg) (xs (v3 + 2).toNatClampNeg) (fun r34 s34 => ((r33 = r34 → (∀ x17 : Int32, x17 = v3 + 5 → (w_law L xs K n s34 x17))) ∧ (¬ (r33 = r34) → (False))))))))))) ∧ (¬ ((xs v3.toNatClampNeg) &&& 31) = 16 → ((((xs v3.toNatClampNeg) &&& 31) = 17 → (vp_in (v3 + 1) L ∧ (vp_in (v3 + 2) L ∧ (w_X8_ask s0 (xs (v3 + 1).toNatClampNeg) (xs (v3 + 2).toNatClampNeg) (fun r35 s35 => vp_in (v3 + 1) L ∧ (vp_in (v3 + 2) L ∧ (w_X9_ask s35 (xs (v3 + 1).toNatClampNeg) (xs (v3 + 2).toNatClampNeg) (fun r36 s36 => ((r35 = r36 → (∀ x18 : Int32, x18 = v3 + 5 → (w_law L xs K n s36 x18))) ∧ (¬ (r35 = r36) → (False))))))))))) ∧ (¬ ((xs v3.toNatClampNeg) &&& 31) = 17 → ((((xs v3.toNatClampNeg) &&& 31) = 18 → (vp_in (v3 + 1) L ∧ (w_X8_trace s0 (xs (v3 + 1).toNatClampNeg) (fun r37 s37 => vp_in (v3 + 1) L ∧ (w_X9_trace s37 (xs (v3 + 1).toNatClampNeg) (fun r38 s38 => ((r37 = r38 → (∀ x19 : Int32, x19 = v3 + 5 → (w_law L xs K n s38 x19))) ∧ (¬ (r37 = r38) → (False))))))))) ∧ (¬ ((xs v3.toNatClampNeg) &&& 31) = 18 → ((((xs v3.toNatClampNeg) &&& 31) = 19 → (vp_in (v3 + 1) L ∧ (w_X8_count s0 (xs (v3 + 1).toNatClampNeg) (fun r39 s39 => vp_in (v3 + 1) L ∧ (w_X9_count s39 (xs (v3 + 1).toNatClampNeg) (fun r40 s40 => ((r39 = r40 → (∀ x20 : Int32, x20 = v3 + 5 → (w_law L xs K n s40 x20))) ∧ (¬ (r39 = r40) → (False))))))))) ∧ (¬ ((xs v3.toNatClampNeg) &&& 31) = 19 → (∀ x21 : Int32, x21 = v3 + 5 → (w_law L xs K n s0 x21))))))))))))))))))))))))))))))))))))))))))))))
set_option maxRecDepth 100000 in
set_option maxHeartbeats 4000000 in
theorem t_law {p : Program} {l : Launch} {e : Env} {s : State} {m : MethodId} {below : List Frame} {meth : Method} {c : Code} {X : XT} {A : Nat → Prop} {cells slots : Nat} {Qf : State → Prop} {b L : Nat} {xs : Nat → Int32} (E : Ev p room_1 s m #[Value.ref b] meth c X A 4 cells slots cL_law RL) (HX : va_X b L xs s s.heap ∧ b < s.heap.size ∧ ¬ A b) {K : ST → Prop} (hK : ∀ s0 : ST, K s0 → G p l e room_1 s m #[Value.ref b] below meth c X A 4 cells slots Qf s0 792 [none, none, none, none] []) : ∀ (n : Nat) (s0 : ST) (v3 : Int32), w_law L xs K n s0 v3 → G p l e room_1 s m #[Value.ref b] below meth c X A 4 cells slots Qf s0 28 [some (.ref b), some (.ref (xa X 0)), some (.ref (xa X 63)), some (.int v3)] [] := by
  intro n
  induction n with
  | zero => intro s0 v3 h; exact h.elim
  | succ n ih =>
    intro s0 v3 h
    refine r_iload_n (pc := 28) E dL_law_28 rfl rfl ?_
    refine r_aload_n (pc := 29) E dL_law_29 rfl rfl ?_
    refine r_slen (pc := 30) E HX dL_law_30 ?_
    refine r_iconst (pc := 31) (v := 5) E dL_law_31 (by decide) ?_
    refine r_isub (pc := 32) E dL_law_32 ?_
    refine r_icmp_gt (pc := 33) (tgt := 792) E dL_law_33 (by decide) (fun c1 => ?_) (fun c1 => ?_)
    · have h := h.1 c1
      exact r_forget (le_n (le_n (le_n (le_n le_0)))) (hK _  h)
    · have h := h.2 c1
      refine r_aload_n (pc := 36) E dL_law_36 rfl rfl ?_
      refine r_iload_n (pc := 37) E dL_law_37 rfl rfl ?_
      refine r_sld (pc := 38) E HX h.1 dL_law_38 ?_
      have h := h.2
      refine r_bipush (pc := 39) (v := 31) E dL_law_39 (by decide) ?_
      refine r_iand (pc := 41) E dL_law_41 ?_
      by_cases c2 : ((xs v3.toNatClampNeg) &&& 31) = 0
      · have h := h.1 c2
        refine r_tabIn (pc := 42) (tgt := 136) (off := 94) (v := 0) E c2 dL_law_42 (by decide) (by decide) (by decide) (by decide) ?_
        refine r_aload_n (pc := 136) E dL_law_136 rfl rfl ?_
        refine r_aload_n (pc := 137) E dL_law_137 rfl rfl ?_
        refine r_iload_n (pc := 138) E dL_law_138 rfl rfl ?_
        refine r_iconst (pc := 139) (v := 1) E dL_law_139 (by decide) ?_
        refine r_iadd (pc := 140) E dL_law_140 ?_
        refine r_sld (pc := 141) E HX h.1 dL_law_141 ?_
        have h := h.2
        refine r_aload_n (pc := 142) E dL_law_142 rfl rfl ?_
        refine r_iload_n (pc := 143) E dL_law_143 rfl rfl ?_
        refine r_iconst (pc := 144) (v := 2) E dL_law_144 (by decide) ?_
        refine r_iadd (pc := 145) E dL_law_145 ?_
        refine r_sld (pc := 146) E HX h.1 dL_law_146 ?_
        have h := h.2
        refine afterI (pc := 147) E (fun H locs ls hP hS hl => runV (As := [.int (xs (v3 + 1).toNatClampNeg), .int (xs (v3 + 2).toNatClampNeg)]) (rest := []) E (c_X8_stretch X _ _ _ _  h) ok_0 kc_8.1 ci_X8_stretch q_352 rfl rfl rfl rfl dL_law_147 hP hS hl) (fun r1 s1 h => ?_)
        refine r_aload_n (pc := 150) E dL_law_150 rfl rfl ?_
        refine r_aload_n (pc := 151) E dL_law_151 rfl rfl ?_
        refine r_iload_n (pc := 152) E dL_law_152 rfl rfl ?_
        refine r_iconst (pc := 153) (v := 1) E dL_law_153 (by decide) ?_
        refine r_iadd (pc := 154) E dL_law_154 ?_
        refine r_sld (pc := 155) E HX h.1 dL_law_155 ?_
        have h := h.2
        refine r_aload_n (pc := 156) E dL_law_156 rfl rfl ?_
        refine r_iload_n (pc := 157) E dL_law_157 rfl rfl ?_
        refine r_iconst (pc := 158) (v := 2) E dL_law_158 (by decide) ?_
        refine r_iadd (pc := 159) E dL_law_159 ?_
        refine r_sld (pc := 160) E HX h.1 dL_law_160 ?_
        have h := h.2
        refine afterI (pc := 161) E (fun H locs ls hP hS hl => runV (As := [.int (xs (v3 + 1).toNatClampNeg), .int (xs (v3 + 2).toNatClampNeg)]) (rest := [.int r1]) E (c_X9_stretch X _ _ _ _  h) ok_63 kc_9.1 ci_X9_stretch q_942 rfl rfl rfl rfl dL_law_161 hP hS hl) (fun r2 s2 h => ?_)
        refine r_icmp_eq (pc := 164) (tgt := 786) E dL_law_164 (by decide) (fun c3 => ?_) (fun c3 => ?_)
        · have h := h.1 c3
          obtain ⟨x1, ex1⟩ : ∃ z : Int32, z = v3 + 5 := ⟨_, rfl⟩
          have h := h x1 ex1
          refine r_iinc (pc := 786) (v := 5) (lv' := [some (.ref b), some (.ref (xa X 0)), some (.ref (xa X 63)), some (.int x1)]) E dL_law_786 rfl (by decide) rfl rfl (by rw [ex1]; rfl) ?_
          refine r_goto (pc := 789) (tgt := 28) E dL_law_789 (by decide) ?_
          exact r_forget (le_s (le_s (le_s (le_s le_0)))) (ih _ _ h)
        · have h := h.2 c3
          refine r_iconst (pc := 167) (v := 0) E dL_law_167 (by decide) ?_
          exact h.elim
      have h := h.2 c2
      by_cases c4 : ((xs v3.toNatClampNeg) &&& 31) = 1
      · have h := h.1 c4
        refine r_tabIn (pc := 42) (tgt := 169) (off := 127) (v := 1) E c4 dL_law_42 (by decide) (by decide) (by decide) (by decide) ?_
        refine r_aload_n (pc := 169) E dL_law_169 rfl rfl ?_
        refine r_aload_n (pc := 170) E dL_law_170 rfl rfl ?_
        refine r_iload_n (pc := 171) E dL_law_171 rfl rfl ?_
        refine r_iconst (pc := 172) (v := 1) E dL_law_172 (by decide) ?_
        refine r_iadd (pc := 173) E dL_law_173 ?_
        refine r_sld (pc := 174) E HX h.1 dL_law_174 ?_
        have h := h.2
        refine r_aload_n (pc := 175) E dL_law_175 rfl rfl ?_
        refine r_iload_n (pc := 176) E dL_law_176 rfl rfl ?_
        refine r_iconst (pc := 177) (v := 2) E dL_law_177 (by decide) ?_
        refine r_iadd (pc := 178) E dL_law_178 ?_
        refine r_sld (pc := 179) E HX h.1 dL_law_179 ?_
        have h := h.2
        refine r_aload_n (pc := 180) E dL_law_180 rfl rfl ?_
        refine r_iload_n (pc := 181) E dL_law_181 rfl rfl ?_
        refine r_iconst (pc := 182) (v := 3) E dL_law_182 (by decide) ?_
        refine r_iadd (pc := 183) E dL_law_183 ?_
        refine r_sld (pc := 184) E HX h.1 dL_law_184 ?_
        have h := h.2
        refine afterI (pc := 185) E (fun H locs ls hP hS hl => runV (As := [.int (xs (v3 + 1).toNatClampNeg), .int (xs (v3 + 2).toNatClampNeg), .int (xs (v3 + 3).toNatClampNeg)]) (rest := []) E (c_X8_carry X _ _ _ _ _  h) ok_0 kc_8.1 ci_X8_carry q_361 rfl rfl rfl rfl dL_law_185 hP hS hl) (fun r3 s3 h => ?_)
        refine r_aload_n (pc := 188) E dL_law_188 rfl rfl ?_
        refine r_aload_n (pc := 189) E dL_law_189 rfl rfl ?_
        refine r_iload_n (pc := 190) E dL_law_190 rfl rfl ?_
        refine r_iconst (pc := 191) (v := 1) E dL_law_191 (by decide) ?_
        refine r_iadd (pc := 192) E dL_law_192 ?_
        refine r_sld (pc := 193) E HX h.1 dL_law_193 ?_
        have h := h.2
        refine r_aload_n (pc := 194) E dL_law_194 rfl rfl ?_
        refine r_iload_n (pc := 195) E dL_law_195 rfl rfl ?_
        refine r_iconst (pc := 196) (v := 2) E dL_law_196 (by decide) ?_
        refine r_iadd (pc := 197) E dL_law_197 ?_
        refine r_sld (pc := 198) E HX h.1 dL_law_198 ?_
        have h := h.2
        refine r_aload_n (pc := 199) E dL_law_199 rfl rfl ?_
        refine r_iload_n (pc := 200) E dL_law_200 rfl rfl ?_
        refine r_iconst (pc := 201) (v := 3) E dL_law_201 (by decide) ?_
        refine r_iadd (pc := 202) E dL_law_202 ?_
        refine r_sld (pc := 203) E HX h.1 dL_law_203 ?_
        have h := h.2
        refine afterI (pc := 204) E (fun H locs ls hP hS hl => runV (As := [.int (xs (v3 + 1).toNatClampNeg), .int (xs (v3 + 2).toNatClampNeg), .int (xs (v3 + 3).toNatClampNeg)]) (rest := [.int r3]) E (c_X9_carry X _ _ _ _ _  h) ok_63 kc_9.1 ci_X9_carry q_953 rfl rfl rfl rfl dL_law_204 hP hS hl) (fun r4 s4 h => ?_)
        refine r_icmp_eq (pc := 207) (tgt := 786) E dL_law_207 (by decide) (fun c5 => ?_) (fun c5 => ?_)
        · have h := h.1 c5
          obtain ⟨x2, ex2⟩ : ∃ z : Int32, z = v3 + 5 := ⟨_, rfl⟩
          have h := h x2 ex2
          refine r_iinc (pc := 786) (v := 5) (lv' := [some (.ref b), some (.ref (xa X 0)), some (.ref (xa X 63)), some (.int x2)]) E dL_law_786 rfl (by decide) rfl rfl (by rw [ex2]; rfl) ?_
          refine r_goto (pc := 789) (tgt := 28) E dL_law_789 (by decide) ?_
          exact r_forget (le_s (le_s (le_s (le_s le_0)))) (ih _ _ h)
        · have h := h.2 c5
          refine r_iconst (pc := 210) (v := 0) E dL_law_210 (by decide) ?_
          exact h.elim
      have h := h.2 c4
      by_cases c6 : ((xs v3.toNatClampNeg) &&& 31) = 2
      · have h := h.1 c6
        refine r_tabIn (pc := 42) (tgt := 212) (off := 170) (v := 2) E c6 dL_law_42 (by decide) (by decide) (by decide) (by decide) ?_
        refine r_aload_n (pc := 212) E dL_law_212 rfl rfl ?_
        refine r_aload_n (pc := 213) E dL_law_213 rfl rfl ?_
        refine r_iload_n (pc := 214) E dL_law_214 rfl rfl ?_
        refine r_iconst (pc := 215) (v := 1) E dL_law_215 (by decide) ?_
        refine r_iadd (pc := 216) E dL_law_216 ?_
        refine r_sld (pc := 217) E HX h.1 dL_law_217 ?_
        have h := h.2
        refine r_aload_n (pc := 218) E dL_law_218 rfl rfl ?_
        refine r_iload_n (pc := 219) E dL_law_219 rfl rfl ?_
        refine r_iconst (pc := 220) (v := 2) E dL_law_220 (by decide) ?_
        refine r_iadd (pc := 221) E dL_law_221 ?_
        refine r_sld (pc := 222) E HX h.1 dL_law_222 ?_
        have h := h.2
        refine afterI (pc := 223) E (fun H locs ls hP hS hl => runV (As := [.int (xs (v3 + 1).toNatClampNeg), .int (xs (v3 + 2).toNatClampNeg)]) (rest := []) E (c_X8_told X _ _ _ _  h) ok_0 kc_8.1 ci_X8_told q_387 rfl rfl rfl rfl dL_law_223 hP hS hl) (fun r5 s5 h => ?_)
        refine r_aload_n (pc := 226) E dL_law_226 rfl rfl ?_
        refine r_aload_n (pc := 227) E dL_law_227 rfl rfl ?_
        refine r_iload_n (pc := 228) E dL_law_228 rfl rfl ?_
        refine r_iconst (pc := 229) (v := 1) E dL_law_229 (by decide) ?_
        refine r_iadd (pc := 230) E dL_law_230 ?_
        refine r_sld (pc := 231) E HX h.1 dL_law_231 ?_
        have h := h.2
        refine r_aload_n (pc := 232) E dL_law_232 rfl rfl ?_
        refine r_iload_n (pc := 233) E dL_law_233 rfl rfl ?_
        refine r_iconst (pc := 234) (v := 2) E dL_law_234 (by decide) ?_
        refine r_iadd (pc := 235) E dL_law_235 ?_
        refine r_sld (pc := 236) E HX h.1 dL_law_236 ?_
        have h := h.2
        refine afterI (pc := 237) E (fun H locs ls hP hS hl => runV (As := [.int (xs (v3 + 1).toNatClampNeg), .int (xs (v3 + 2).toNatClampNeg)]) (rest := [.int r5]) E (c_X9_told X _ _ _ _  h) ok_63 kc_9.1 ci_X9_told q_968 rfl rfl rfl rfl dL_law_237 hP hS hl) (fun r6 s6 h => ?_)
        refine r_icmp_eq (pc := 240) (tgt := 786) E dL_law_240 (by decide) (fun c7 => ?_) (fun c7 => ?_)
        · have h := h.1 c7
          obtain ⟨x3, ex3⟩ : ∃ z : Int32, z = v3 + 5 := ⟨_, rfl⟩
          have h := h x3 ex3
          refine r_iinc (pc := 786) (v := 5) (lv' := [some (.ref b), some (.ref (xa X 0)), some (.ref (xa X 63)), some (.int x3)]) E dL_law_786 rfl (by decide) rfl rfl (by rw [ex3]; rfl) ?_
          refine r_goto (pc := 789) (tgt := 28) E dL_law_789 (by decide) ?_
          exact r_forget (le_s (le_s (le_s (le_s le_0)))) (ih _ _ h)
        · have h := h.2 c7
          refine r_iconst (pc := 243) (v := 0) E dL_law_243 (by decide) ?_
          exact h.elim
      have h := h.2 c6
      by_cases c8 : ((xs v3.toNatClampNeg) &&& 31) = 3
      · have h := h.1 c8
        refine r_tabIn (pc := 42) (tgt := 245) (off := 203) (v := 3) E c8 dL_law_42 (by decide) (by decide) (by decide) (by decide) ?_
        refine r_aload_n (pc := 245) E dL_law_245 rfl rfl ?_
        refine r_aload_n (pc := 246) E dL_law_246 rfl rfl ?_
        refine r_iload_n (pc := 247) E dL_law_247 rfl rfl ?_
        refine r_iconst (pc := 248) (v := 1) E dL_law_248 (by decide) ?_
        refine r_iadd (pc := 249) E dL_law_249 ?_
        refine r_sld (pc := 250) E HX h.1 dL_law_250 ?_
        have h := h.2
        refine r_aload_n (pc := 251) E dL_law_251 rfl rfl ?_
        refine r_iload_n (pc := 252) E dL_law_252 rfl rfl ?_
        refine r_iconst (pc := 253) (v := 2) E dL_law_253 (by decide) ?_
        refine r_iadd (pc := 254) E dL_law_254 ?_
        refine r_sld (pc := 255) E HX h.1 dL_law_255 ?_
        have h := h.2
        refine afterI (pc := 256) E (fun H locs ls hP hS hl => runV (As := [.int (xs (v3 + 1).toNatClampNeg), .int (xs (v3 + 2).toNatClampNeg)]) (rest := []) E (c_X8_rule X _ _ _ _  h) ok_0 kc_8.1 ci_X8_rule q_391 rfl rfl rfl rfl dL_law_256 hP hS hl) (fun r7 s7 h => ?_)
        refine r_aload_n (pc := 259) E dL_law_259 rfl rfl ?_
        refine r_aload_n (pc := 260) E dL_law_260 rfl rfl ?_
        refine r_iload_n (pc := 261) E dL_law_261 rfl rfl ?_
        refine r_iconst (pc := 262) (v := 1) E dL_law_262 (by decide) ?_
        refine r_iadd (pc := 263) E dL_law_263 ?_
        refine r_sld (pc := 264) E HX h.1 dL_law_264 ?_
        have h := h.2
        refine r_aload_n (pc := 265) E dL_law_265 rfl rfl ?_
        refine r_iload_n (pc := 266) E dL_law_266 rfl rfl ?_
        refine r_iconst (pc := 267) (v := 2) E dL_law_267 (by decide) ?_
        refine r_iadd (pc := 268) E dL_law_268 ?_
        refine r_sld (pc := 269) E HX h.1 dL_law_269 ?_
        have h := h.2
        refine afterI (pc := 270) E (fun H locs ls hP hS hl => runV (As := [.int (xs (v3 + 1).toNatClampNeg), .int (xs (v3 + 2).toNatClampNeg)]) (rest := [.int r7]) E (c_X9_rule X _ _ _ _  h) ok_63 kc_9.1 ci_X9_rule q_973 rfl rfl rfl rfl dL_law_270 hP hS hl) (fun r8 s8 h => ?_)
        refine r_icmp_eq (pc := 273) (tgt := 786) E dL_law_273 (by decide) (fun c9 => ?_) (fun c9 => ?_)
        · have h := h.1 c9
          obtain ⟨x4, ex4⟩ : ∃ z : Int32, z = v3 + 5 := ⟨_, rfl⟩
          have h := h x4 ex4
          refine r_iinc (pc := 786) (v := 5) (lv' := [some (.ref b), some (.ref (xa X 0)), some (.ref (xa X 63)), some (.int x4)]) E dL_law_786 rfl (by decide) rfl rfl (by rw [ex4]; rfl) ?_
          refine r_goto (pc := 789) (tgt := 28) E dL_law_789 (by decide) ?_
          exact r_forget (le_s (le_s (le_s (le_s le_0)))) (ih _ _ h)
        · have h := h.2 c9
          refine r_iconst (pc := 276) (v := 0) E dL_law_276 (by decide) ?_
          exact h.elim
      have h := h.2 c8
      by_cases c10 : ((xs v3.toNatClampNeg) &&& 31) = 4
      · have h := h.1 c10
        refine r_tabIn (pc := 42) (tgt := 278) (off := 236) (v := 4) E c10 dL_law_42 (by decide) (by decide) (by decide) (by decide) ?_
        refine r_aload_n (pc := 278) E dL_law_278 rfl rfl ?_
        refine r_aload_n (pc := 279) E dL_law_279 rfl rfl ?_
        refine r_iload_n (pc := 280) E dL_law_280 rfl rfl ?_
        refine r_iconst (pc := 281) (v := 1) E dL_law_281 (by decide) ?_
        refine r_iadd (pc := 282) E dL_law_282 ?_
        refine r_sld (pc := 283) E HX h.1 dL_law_283 ?_
        have h := h.2
        refine afterI (pc := 284) E (fun H locs ls hP hS hl => runV (As := [.int (xs (v3 + 1).toNatClampNeg)]) (rest := []) E (c_X8_mend X _ _ _  h) ok_0 kc_8.1 ci_X8_mend q_395 rfl rfl rfl rfl dL_law_284 hP hS hl) (fun r9 s9 h => ?_)
        refine r_aload_n (pc := 287) E dL_law_287 rfl rfl ?_
        refine r_aload_n (pc := 288) E dL_law_288 rfl rfl ?_
        refine r_iload_n (pc := 289) E dL_law_289 rfl rfl ?_
        refine r_iconst (pc := 290) (v := 1) E dL_law_290 (by decide) ?_
        refine r_iadd (pc := 291) E dL_law_291 ?_
        refine r_sld (pc := 292) E HX h.1 dL_law_292 ?_
        have h := h.2
        refine afterI (pc := 293) E (fun H locs ls hP hS hl => runV (As := [.int (xs (v3 + 1).toNatClampNeg)]) (rest := [.int r9]) E (c_X9_mend X _ _ _  h) ok_63 kc_9.1 ci_X9_mend q_978 rfl rfl rfl rfl dL_law_293 hP hS hl) (fun r10 s10 h => ?_)
        refine r_icmp_eq (pc := 296) (tgt := 786) E dL_law_296 (by decide) (fun c11 => ?_) (fun c11 => ?_)
        · have h := h.1 c11
          obtain ⟨x5, ex5⟩ : ∃ z : Int32, z = v3 + 5 := ⟨_, rfl⟩
          have h := h x5 ex5
          refine r_iinc (pc := 786) (v := 5) (lv' := [some (.ref b), some (.ref (xa X 0)), some (.ref (xa X 63)), some (.int x5)]) E dL_law_786 rfl (by decide) rfl rfl (by rw [ex5]; rfl) ?_
          refine r_goto (pc := 789) (tgt := 28) E dL_law_789 (by decide) ?_
          exact r_forget (le_s (le_s (le_s (le_s le_0)))) (ih _ _ h)
        · have h := h.2 c11
          refine r_iconst (pc := 299) (v := 0) E dL_law_299 (by decide) ?_
          exact h.elim
      have h := h.2 c10
      by_cases c12 : ((xs v3.toNatClampNeg) &&& 31) = 5
      · have h := h.1 c12
        refine r_tabIn (pc := 42) (tgt := 301) (off := 259) (v := 5) E c12 dL_law_42 (by decide) (by decide) (by decide) (by decide) ?_
        refine r_aload_n (pc := 301) E dL_law_301 rfl rfl ?_
        refine r_aload_n (pc := 302) E dL_law_302 rfl rfl ?_
        refine r_iload_n (pc := 303) E dL_law_303 rfl rfl ?_
        refine r_iconst (pc := 304) (v := 1) E dL_law_304 (by decide) ?_
        refine r_iadd (pc := 305) E dL_law_305 ?_
        refine r_sld (pc := 306) E HX h.1 dL_law_306 ?_
        have h := h.2
        refine r_aload_n (pc := 307) E dL_law_307 rfl rfl ?_
        refine r_iload_n (pc := 308) E dL_law_308 rfl rfl ?_
        refine r_iconst (pc := 309) (v := 2) E dL_law_309 (by decide) ?_
        refine r_iadd (pc := 310) E dL_law_310 ?_
        refine r_sld (pc := 311) E HX h.1 dL_law_311 ?_
        have h := h.2
        refine r_aload_n (pc := 312) E dL_law_312 rfl rfl ?_
        refine r_iload_n (pc := 313) E dL_law_313 rfl rfl ?_
        refine r_iconst (pc := 314) (v := 3) E dL_law_314 (by decide) ?_
        refine r_iadd (pc := 315) E dL_law_315 ?_
        refine r_sld (pc := 316) E HX h.1 dL_law_316 ?_
        have h := h.2
        refine afterI (pc := 317) E (fun H locs ls hP hS hl => runV (As := [.int (xs (v3 + 1).toNatClampNeg), .int (xs (v3 + 2).toNatClampNeg), .int (xs (v3 + 3).toNatClampNeg)]) (rest := []) E (c_X8_hire X _ _ _ _ _  h) ok_0 kc_8.1 ci_X8_hire q_399 rfl rfl rfl rfl dL_law_317 hP hS hl) (fun r11 s11 h => ?_)
        refine r_aload_n (pc := 320) E dL_law_320 rfl rfl ?_
        refine r_aload_n (pc := 321) E dL_law_321 rfl rfl ?_
        refine r_iload_n (pc := 322) E dL_law_322 rfl rfl ?_
        refine r_iconst (pc := 323) (v := 1) E dL_law_323 (by decide) ?_
        refine r_iadd (pc := 324) E dL_law_324 ?_
        refine r_sld (pc := 325) E HX h.1 dL_law_325 ?_
        have h := h.2
        refine r_aload_n (pc := 326) E dL_law_326 rfl rfl ?_
        refine r_iload_n (pc := 327) E dL_law_327 rfl rfl ?_
        refine r_iconst (pc := 328) (v := 2) E dL_law_328 (by decide) ?_
        refine r_iadd (pc := 329) E dL_law_329 ?_
        refine r_sld (pc := 330) E HX h.1 dL_law_330 ?_
        have h := h.2
        refine r_aload_n (pc := 331) E dL_law_331 rfl rfl ?_
        refine r_iload_n (pc := 332) E dL_law_332 rfl rfl ?_
        refine r_iconst (pc := 333) (v := 3) E dL_law_333 (by decide) ?_
        refine r_iadd (pc := 334) E dL_law_334 ?_
        refine r_sld (pc := 335) E HX h.1 dL_law_335 ?_
        have h := h.2
        refine afterI (pc := 336) E (fun H locs ls hP hS hl => runV (As := [.int (xs (v3 + 1).toNatClampNeg), .int (xs (v3 + 2).toNatClampNeg), .int (xs (v3 + 3).toNatClampNeg)]) (rest := [.int r11]) E (c_X9_hire X _ _ _ _ _  h) ok_63 kc_9.1 ci_X9_hire q_982 rfl rfl rfl rfl dL_law_336 hP hS hl) (fun r12 s12 h => ?_)
        refine r_icmp_eq (pc := 339) (tgt := 786) E dL_law_339 (by decide) (fun c13 => ?_) (fun c13 => ?_)
        · have h := h.1 c13
          obtain ⟨x6, ex6⟩ : ∃ z : Int32, z = v3 + 5 := ⟨_, rfl⟩
          have h := h x6 ex6
          refine r_iinc (pc := 786) (v := 5) (lv' := [some (.ref b), some (.ref (xa X 0)), some (.ref (xa X 63)), some (.int x6)]) E dL_law_786 rfl (by decide) rfl rfl (by rw [ex6]; rfl) ?_
          refine r_goto (pc := 789) (tgt := 28) E dL_law_789 (by decide) ?_
          exact r_forget (le_s (le_s (le_s (le_s le_0)))) (ih _ _ h)
        · have h := h.2 c13
          refine r_iconst (pc := 342) (v := 0) E dL_law_342 (by decide) ?_
          exact h.elim
      have h := h.2 c12
      by_cases c14 : ((xs v3.toNatClampNeg) &&& 31) = 6
      · have h := h.1 c14
        refine r_tabIn (pc := 42) (tgt := 344) (off := 302) (v := 6) E c14 dL_law_42 (by decide) (by decide) (by decide) (by decide) ?_
        refine r_aload_n (pc := 344) E dL_law_344 rfl rfl ?_
        refine r_aload_n (pc := 345) E dL_law_345 rfl rfl ?_
        refine r_iload_n (pc := 346) E dL_law_346 rfl rfl ?_
        refine r_iconst (pc := 347) (v := 1) E dL_law_347 (by decide) ?_
        refine r_iadd (pc := 348) E dL_law_348 ?_
        refine r_sld (pc := 349) E HX h.1 dL_law_349 ?_
        have h := h.2
        refine r_aload_n (pc := 350) E dL_law_350 rfl rfl ?_
        refine r_iload_n (pc := 351) E dL_law_351 rfl rfl ?_
        refine r_iconst (pc := 352) (v := 2) E dL_law_352 (by decide) ?_
        refine r_iadd (pc := 353) E dL_law_353 ?_
        refine r_sld (pc := 354) E HX h.1 dL_law_354 ?_
        have h := h.2
        refine afterI (pc := 355) E (fun H locs ls hP hS hl => runV (As := [.int (xs (v3 + 1).toNatClampNeg), .int (xs (v3 + 2).toNatClampNeg)]) (rest := []) E (c_X8_shift X _ _ _ _  h) ok_0 kc_8.1 ci_X8_shift q_411 rfl rfl rfl rfl dL_law_355 hP hS hl) (fun r13 s13 h => ?_)
        refine r_aload_n (pc := 358) E dL_law_358 rfl rfl ?_
        refine r_aload_n (pc := 359) E dL_law_359 rfl rfl ?_
        refine r_iload_n (pc := 360) E dL_law_360 rfl rfl ?_
        refine r_iconst (pc := 361) (v := 1) E dL_law_361 (by decide) ?_
        refine r_iadd (pc := 362) E dL_law_362 ?_
        refine r_sld (pc := 363) E HX h.1 dL_law_363 ?_
        have h := h.2
        refine r_aload_n (pc := 364) E dL_law_364 rfl rfl ?_
        refine r_iload_n (pc := 365) E dL_law_365 rfl rfl ?_
        refine r_iconst (pc := 366) (v := 2) E dL_law_366 (by decide) ?_
        refine r_iadd (pc := 367) E dL_law_367 ?_
        refine r_sld (pc := 368) E HX h.1 dL_law_368 ?_
        have h := h.2
        refine afterI (pc := 369) E (fun H locs ls hP hS hl => runV (As := [.int (xs (v3 + 1).toNatClampNeg), .int (xs (v3 + 2).toNatClampNeg)]) (rest := [.int r13]) E (c_X9_shift X _ _ _ _  h) ok_63 kc_9.1 ci_X9_shift q_987 rfl rfl rfl rfl dL_law_369 hP hS hl) (fun r14 s14 h => ?_)
        refine r_icmp_eq (pc := 372) (tgt := 786) E dL_law_372 (by decide) (fun c15 => ?_) (fun c15 => ?_)
        · have h := h.1 c15
          obtain ⟨x7, ex7⟩ : ∃ z : Int32, z = v3 + 5 := ⟨_, rfl⟩
          have h := h x7 ex7
          refine r_iinc (pc := 786) (v := 5) (lv' := [some (.ref b), some (.ref (xa X 0)), some (.ref (xa X 63)), some (.int x7)]) E dL_law_786 rfl (by decide) rfl rfl (by rw [ex7]; rfl) ?_
          refine r_goto (pc := 789) (tgt := 28) E dL_law_789 (by decide) ?_
          exact r_forget (le_s (le_s (le_s (le_s le_0)))) (ih _ _ h)
        · have h := h.2 c15
          refine r_iconst (pc := 375) (v := 0) E dL_law_375 (by decide) ?_
          exact h.elim
      have h := h.2 c14
      by_cases c16 : ((xs v3.toNatClampNeg) &&& 31) = 7
      · have h := h.1 c16
        refine r_tabIn (pc := 42) (tgt := 377) (off := 335) (v := 7) E c16 dL_law_42 (by decide) (by decide) (by decide) (by decide) ?_
        refine r_aload_n (pc := 377) E dL_law_377 rfl rfl ?_
        refine r_aload_n (pc := 378) E dL_law_378 rfl rfl ?_
        refine r_iload_n (pc := 379) E dL_law_379 rfl rfl ?_
        refine r_iconst (pc := 380) (v := 1) E dL_law_380 (by decide) ?_
        refine r_iadd (pc := 381) E dL_law_381 ?_
        refine r_sld (pc := 382) E HX h.1 dL_law_382 ?_
        have h := h.2
        refine r_aload_n (pc := 383) E dL_law_383 rfl rfl ?_
        refine r_iload_n (pc := 384) E dL_law_384 rfl rfl ?_
        refine r_iconst (pc := 385) (v := 2) E dL_law_385 (by decide) ?_
        refine r_iadd (pc := 386) E dL_law_386 ?_
        refine r_sld (pc := 387) E HX h.1 dL_law_387 ?_
        have h := h.2
        refine afterI (pc := 388) E (fun H locs ls hP hS hl => runV (As := [.int (xs (v3 + 1).toNatClampNeg), .int (xs (v3 + 2).toNatClampNeg)]) (rest := []) E (c_X8_ticket X _ _ _ _  h) ok_0 kc_8.1 ci_X8_ticket q_423 rfl rfl rfl rfl dL_law_388 hP hS hl) (fun r15 s15 h => ?_)
        refine r_aload_n (pc := 391) E dL_law_391 rfl rfl ?_
        refine r_aload_n (pc := 392) E dL_law_392 rfl rfl ?_
        refine r_iload_n (pc := 393) E dL_law_393 rfl rfl ?_
        refine r_iconst (pc := 394) (v := 1) E dL_law_394 (by decide) ?_
        refine r_iadd (pc := 395) E dL_law_395 ?_
        refine r_sld (pc := 396) E HX h.1 dL_law_396 ?_
        have h := h.2
        refine r_aload_n (pc := 397) E dL_law_397 rfl rfl ?_
        refine r_iload_n (pc := 398) E dL_law_398 rfl rfl ?_
        refine r_iconst (pc := 399) (v := 2) E dL_law_399 (by decide) ?_
        refine r_iadd (pc := 400) E dL_law_400 ?_
        refine r_sld (pc := 401) E HX h.1 dL_law_401 ?_
        have h := h.2
        refine afterI (pc := 402) E (fun H locs ls hP hS hl => runV (As := [.int (xs (v3 + 1).toNatClampNeg), .int (xs (v3 + 2).toNatClampNeg)]) (rest := [.int r15]) E (c_X9_ticket X _ _ _ _  h) ok_63 kc_9.1 ci_X9_ticket q_995 rfl rfl rfl rfl dL_law_402 hP hS hl) (fun r16 s16 h => ?_)
        refine r_icmp_eq (pc := 405) (tgt := 786) E dL_law_405 (by decide) (fun c17 => ?_) (fun c17 => ?_)
        · have h := h.1 c17
          obtain ⟨x8, ex8⟩ : ∃ z : Int32, z = v3 + 5 := ⟨_, rfl⟩
          have h := h x8 ex8
          refine r_iinc (pc := 786) (v := 5) (lv' := [some (.ref b), some (.ref (xa X 0)), some (.ref (xa X 63)), some (.int x8)]) E dL_law_786 rfl (by decide) rfl rfl (by rw [ex8]; rfl) ?_
          refine r_goto (pc := 789) (tgt := 28) E dL_law_789 (by decide) ?_
          exact r_forget (le_s (le_s (le_s (le_s le_0)))) (ih _ _ h)
        · have h := h.2 c17
          refine r_iconst (pc := 408) (v := 0) E dL_law_408 (by decide) ?_
          exact h.elim
      have h := h.2 c16
      by_cases c18 : ((xs v3.toNatClampNeg) &&& 31) = 8
      · have h := h.1 c18
        refine r_tabIn (pc := 42) (tgt := 410) (off := 368) (v := 8) E c18 dL_law_42 (by decide) (by decide) (by decide) (by decide) ?_
        refine r_aload_n (pc := 410) E dL_law_410 rfl rfl ?_
        refine r_aload_n (pc := 411) E dL_law_411 rfl rfl ?_
        refine r_iload_n (pc := 412) E dL_law_412 rfl rfl ?_
        refine r_iconst (pc := 413) (v := 1) E dL_law_413 (by decide) ?_
        refine r_iadd (pc := 414) E dL_law_414 ?_
        refine r_sld (pc := 415) E HX h.1 dL_law_415 ?_
        have h := h.2
        refine r_aload_n (pc := 416) E dL_law_416 rfl rfl ?_
        refine r_iload_n (pc := 417) E dL_law_417 rfl rfl ?_
        refine r_iconst (pc := 418) (v := 2) E dL_law_418 (by decide) ?_
        refine r_iadd (pc := 419) E dL_law_419 ?_
        refine r_sld (pc := 420) E HX h.1 dL_law_420 ?_
        have h := h.2
        refine r_aload_n (pc := 421) E dL_law_421 rfl rfl ?_
        refine r_iload_n (pc := 422) E dL_law_422 rfl rfl ?_
        refine r_iconst (pc := 423) (v := 3) E dL_law_423 (by decide) ?_
        refine r_iadd (pc := 424) E dL_law_424 ?_
        refine r_sld (pc := 425) E HX h.1 dL_law_425 ?_
        have h := h.2
        refine r_aload_n (pc := 426) E dL_law_426 rfl rfl ?_
        refine r_iload_n (pc := 427) E dL_law_427 rfl rfl ?_
        refine r_iconst (pc := 428) (v := 4) E dL_law_428 (by decide) ?_
        refine r_iadd (pc := 429) E dL_law_429 ?_
        refine r_sld (pc := 430) E HX h.1 dL_law_430 ?_
        have h := h.2
        refine afterI (pc := 431) E (fun H locs ls hP hS hl => runV (As := [.int (xs (v3 + 1).toNatClampNeg), .int (xs (v3 + 2).toNatClampNeg), .int (xs (v3 + 3).toNatClampNeg), .int (xs (v3 + 4).toNatClampNeg)]) (rest := []) E (c_X8_hour X _ _ _ _ _ _  h) ok_0 kc_8.1 ci_X8_hour q_427 rfl rfl rfl rfl dL_law_431 hP hS hl) (fun r17 s17 h => ?_)
        refine r_aload_n (pc := 434) E dL_law_434 rfl rfl ?_
        refine r_aload_n (pc := 435) E dL_law_435 rfl rfl ?_
        refine r_iload_n (pc := 436) E dL_law_436 rfl rfl ?_
        refine r_iconst (pc := 437) (v := 1) E dL_law_437 (by decide) ?_
        refine r_iadd (pc := 438) E dL_law_438 ?_
        refine r_sld (pc := 439) E HX h.1 dL_law_439 ?_
        have h := h.2
        refine r_aload_n (pc := 440) E dL_law_440 rfl rfl ?_
        refine r_iload_n (pc := 441) E dL_law_441 rfl rfl ?_
        refine r_iconst (pc := 442) (v := 2) E dL_law_442 (by decide) ?_
        refine r_iadd (pc := 443) E dL_law_443 ?_
        refine r_sld (pc := 444) E HX h.1 dL_law_444 ?_
        have h := h.2
        refine r_aload_n (pc := 445) E dL_law_445 rfl rfl ?_
        refine r_iload_n (pc := 446) E dL_law_446 rfl rfl ?_
        refine r_iconst (pc := 447) (v := 3) E dL_law_447 (by decide) ?_
        refine r_iadd (pc := 448) E dL_law_448 ?_
        refine r_sld (pc := 449) E HX h.1 dL_law_449 ?_
        have h := h.2
        refine r_aload_n (pc := 450) E dL_law_450 rfl rfl ?_
        refine r_iload_n (pc := 451) E dL_law_451 rfl rfl ?_
        refine r_iconst (pc := 452) (v := 4) E dL_law_452 (by decide) ?_
        refine r_iadd (pc := 453) E dL_law_453 ?_
        refine r_sld (pc := 454) E HX h.1 dL_law_454 ?_
        have h := h.2
        refine afterI (pc := 455) E (fun H locs ls hP hS hl => runV (As := [.int (xs (v3 + 1).toNatClampNeg), .int (xs (v3 + 2).toNatClampNeg), .int (xs (v3 + 3).toNatClampNeg), .int (xs (v3 + 4).toNatClampNeg)]) (rest := [.int r17]) E (c_X9_hour X _ _ _ _ _ _  h) ok_63 kc_9.1 ci_X9_hour q_999 rfl rfl rfl rfl dL_law_455 hP hS hl) (fun r18 s18 h => ?_)
        refine r_icmp_eq (pc := 458) (tgt := 786) E dL_law_458 (by decide) (fun c19 => ?_) (fun c19 => ?_)
        · have h := h.1 c19
          obtain ⟨x9, ex9⟩ : ∃ z : Int32, z = v3 + 5 := ⟨_, rfl⟩
          have h := h x9 ex9
          refine r_iinc (pc := 786) (v := 5) (lv' := [some (.ref b), some (.ref (xa X 0)), some (.ref (xa X 63)), some (.int x9)]) E dL_law_786 rfl (by decide) rfl rfl (by rw [ex9]; rfl) ?_
          refine r_goto (pc := 789) (tgt := 28) E dL_law_789 (by decide) ?_
          exact r_forget (le_s (le_s (le_s (le_s le_0)))) (ih _ _ h)
        · have h := h.2 c19
          refine r_iconst (pc := 461) (v := 0) E dL_law_461 (by decide) ?_
          exact h.elim
      have h := h.2 c18
      by_cases c20 : ((xs v3.toNatClampNeg) &&& 31) = 9
      · have h := h.1 c20
        refine r_tabIn (pc := 42) (tgt := 463) (off := 421) (v := 9) E c20 dL_law_42 (by decide) (by decide) (by decide) (by decide) ?_
        refine r_aload_n (pc := 463) E dL_law_463 rfl rfl ?_
        refine r_aload_n (pc := 464) E dL_law_464 rfl rfl ?_
        refine r_iload_n (pc := 465) E dL_law_465 rfl rfl ?_
        refine r_iconst (pc := 466) (v := 1) E dL_law_466 (by decide) ?_
        refine r_iadd (pc := 467) E dL_law_467 ?_
        refine r_sld (pc := 468) E HX h.1 dL_law_468 ?_
        have h := h.2
        refine r_i2l (pc := 469) E dL_law_469 ?_
        refine r_bipush (pc := 470) (v := 32) E dL_law_470 (by decide) ?_
        refine r_lshl (pc := 472) E dL_law_472 ?_
        refine r_aload_n (pc := 473) E dL_law_473 rfl rfl ?_
        refine r_iload_n (pc := 474) E dL_law_474 rfl rfl ?_
        refine r_iconst (pc := 475) (v := 2) E dL_law_475 (by decide) ?_
        refine r_iadd (pc := 476) E dL_law_476 ?_
        refine r_sld (pc := 477) E HX h.1 dL_law_477 ?_
        have h := h.2
        refine r_i2l (pc := 478) E dL_law_478 ?_
        refine r_ldc2 (pc := 479) (v := 4294967295) E q_1129 dL_law_479 ?_
        refine r_land (pc := 482) E dL_law_482 ?_
        refine r_lor (pc := 483) E dL_law_483 ?_
        refine r_aload_n (pc := 484) E dL_law_484 rfl rfl ?_
        refine r_iload_n (pc := 485) E dL_law_485 rfl rfl ?_
        refine r_iconst (pc := 486) (v := 3) E dL_law_486 (by decide) ?_
        refine r_iadd (pc := 487) E dL_law_487 ?_
        refine r_sld (pc := 488) E HX h.1 dL_law_488 ?_
        have h := h.2
        refine afterI (pc := 489) E (fun H locs ls hP hS hl => runV (As := [.long ((((xs (v3 + 1).toNatClampNeg) : Int32).toInt64 <<< ((32 : Int32).toInt64 &&& 63)) ||| (((xs (v3 + 2).toNatClampNeg) : Int32).toInt64 &&& 4294967295)), .int (xs (v3 + 3).toNatClampNeg)]) (rest := []) E (c_X8_feed X _ _ _ _  h) ok_0 kc_8.1 ci_X8_feed q_471 rfl rfl rfl rfl dL_law_489 hP hS hl) (fun r19 s19 h => ?_)
        refine r_aload_n (pc := 492) E dL_law_492 rfl rfl ?_
        refine r_aload_n (pc := 493) E dL_law_493 rfl rfl ?_
        refine r_iload_n (pc := 494) E dL_law_494 rfl rfl ?_
        refine r_iconst (pc := 495) (v := 1) E dL_law_495 (by decide) ?_
        refine r_iadd (pc := 496) E dL_law_496 ?_
        refine r_sld (pc := 497) E HX h.1 dL_law_497 ?_
        have h := h.2
        refine r_i2l (pc := 498) E dL_law_498 ?_
        refine r_bipush (pc := 499) (v := 32) E dL_law_499 (by decide) ?_
        refine r_lshl (pc := 501) E dL_law_501 ?_
        refine r_aload_n (pc := 502) E dL_law_502 rfl rfl ?_
        refine r_iload_n (pc := 503) E dL_law_503 rfl rfl ?_
        refine r_iconst (pc := 504) (v := 2) E dL_law_504 (by decide) ?_
        refine r_iadd (pc := 505) E dL_law_505 ?_
        refine r_sld (pc := 506) E HX h.1 dL_law_506 ?_
        have h := h.2
        refine r_i2l (pc := 507) E dL_law_507 ?_
        refine r_ldc2 (pc := 508) (v := 4294967295) E q_1129 dL_law_508 ?_
        refine r_land (pc := 511) E dL_law_511 ?_
        refine r_lor (pc := 512) E dL_law_512 ?_
        refine r_aload_n (pc := 513) E dL_law_513 rfl rfl ?_
        refine r_iload_n (pc := 514) E dL_law_514 rfl rfl ?_
        refine r_iconst (pc := 515) (v := 3) E dL_law_515 (by decide) ?_
        refine r_iadd (pc := 516) E dL_law_516 ?_
        refine r_sld (pc := 517) E HX h.1 dL_law_517 ?_
        have h := h.2
        refine afterI (pc := 518) E (fun H locs ls hP hS hl => runV (As := [.long ((((xs (v3 + 1).toNatClampNeg) : Int32).toInt64 <<< ((32 : Int32).toInt64 &&& 63)) ||| (((xs (v3 + 2).toNatClampNeg) : Int32).toInt64 &&& 4294967295)), .int (xs (v3 + 3).toNatClampNeg)]) (rest := [.int r19]) E (c_X9_feed X _ _ _ _  h) ok_63 kc_9.1 ci_X9_feed q_1014 rfl rfl rfl rfl dL_law_518 hP hS hl) (fun r20 s20 h => ?_)
        refine r_icmp_eq (pc := 521) (tgt := 786) E dL_law_521 (by decide) (fun c21 => ?_) (fun c21 => ?_)
        · have h := h.1 c21
          obtain ⟨x10, ex10⟩ : ∃ z : Int32, z = v3 + 5 := ⟨_, rfl⟩
          have h := h x10 ex10
          refine r_iinc (pc := 786) (v := 5) (lv' := [some (.ref b), some (.ref (xa X 0)), some (.ref (xa X 63)), some (.int x10)]) E dL_law_786 rfl (by decide) rfl rfl (by rw [ex10]; rfl) ?_
          refine r_goto (pc := 789) (tgt := 28) E dL_law_789 (by decide) ?_
          exact r_forget (le_s (le_s (le_s (le_s le_0)))) (ih _ _ h)
        · have h := h.2 c21
          refine r_iconst (pc := 524) (v := 0) E dL_law_524 (by decide) ?_
          exact h.elim
      have h := h.2 c20
      by_cases c22 : ((xs v3.toNatClampNeg) &&& 31) = 10
      · have h := h.1 c22
        refine r_tabIn (pc := 42) (tgt := 526) (off := 484) (v := 10) E c22 dL_law_42 (by decide) (by decide) (by decide) (by decide) ?_
        refine r_aload_n (pc := 526) E dL_law_526 rfl rfl ?_
        refine afterI (pc := 527) E (fun H locs ls hP hS hl => runV (As := []) (rest := []) E (c_X8_rules X _  _  h) ok_0 kc_8.1 ci_X8_rules q_483 rfl rfl rfl rfl dL_law_527 hP hS hl) (fun r21 s21 h => ?_)
        refine r_aload_n (pc := 530) E dL_law_530 rfl rfl ?_
        refine afterI (pc := 531) E (fun H locs ls hP hS hl => runV (As := []) (rest := [.int r21]) E (c_X9_rules X _  _  h) ok_63 kc_9.1 ci_X9_rules q_1020 rfl rfl rfl rfl dL_law_531 hP hS hl) (fun r22 s22 h => ?_)
        refine r_icmp_eq (pc := 534) (tgt := 786) E dL_law_534 (by decide) (fun c23 => ?_) (fun c23 => ?_)
        · have h := h.1 c23
          obtain ⟨x11, ex11⟩ : ∃ z : Int32, z = v3 + 5 := ⟨_, rfl⟩
          have h := h x11 ex11
          refine r_iinc (pc := 786) (v := 5) (lv' := [some (.ref b), some (.ref (xa X 0)), some (.ref (xa X 63)), some (.int x11)]) E dL_law_786 rfl (by decide) rfl rfl (by rw [ex11]; rfl) ?_
          refine r_goto (pc := 789) (tgt := 28) E dL_law_789 (by decide) ?_
          exact r_forget (le_s (le_s (le_s (le_s le_0)))) (ih _ _ h)
        · have h := h.2 c23
          refine r_iconst (pc := 537) (v := 0) E dL_law_537 (by decide) ?_
          exact h.elim
      have h := h.2 c22
      by_cases c24 : ((xs v3.toNatClampNeg) &&& 31) = 11
      · have h := h.1 c24
        refine r_tabIn (pc := 42) (tgt := 539) (off := 497) (v := 11) E c24 dL_law_42 (by decide) (by decide) (by decide) (by decide) ?_
        refine r_aload_n (pc := 539) E dL_law_539 rfl rfl ?_
        refine afterI (pc := 540) E (fun H locs ls hP hS hl => runV (As := []) (rest := []) E (c_X8_fault X _  _  h) ok_0 kc_8.1 ci_X8_fault q_626 rfl rfl rfl rfl dL_law_540 hP hS hl) (fun r23 s23 h => ?_)
        refine r_aload_n (pc := 543) E dL_law_543 rfl rfl ?_
        refine afterI (pc := 544) E (fun H locs ls hP hS hl => runV (As := []) (rest := [.int r23]) E (c_X9_fault X _  _  h) ok_63 kc_9.1 ci_X9_fault q_1067 rfl rfl rfl rfl dL_law_544 hP hS hl) (fun r24 s24 h => ?_)
        refine r_icmp_eq (pc := 547) (tgt := 786) E dL_law_547 (by decide) (fun c25 => ?_) (fun c25 => ?_)
        · have h := h.1 c25
          obtain ⟨x12, ex12⟩ : ∃ z : Int32, z = v3 + 5 := ⟨_, rfl⟩
          have h := h x12 ex12
          refine r_iinc (pc := 786) (v := 5) (lv' := [some (.ref b), some (.ref (xa X 0)), some (.ref (xa X 63)), some (.int x12)]) E dL_law_786 rfl (by decide) rfl rfl (by rw [ex12]; rfl) ?_
          refine r_goto (pc := 789) (tgt := 28) E dL_law_789 (by decide) ?_
          exact r_forget (le_s (le_s (le_s (le_s le_0)))) (ih _ _ h)
        · have h := h.2 c25
          refine r_iconst (pc := 550) (v := 0) E dL_law_550 (by decide) ?_
          exact h.elim
      have h := h.2 c24
      by_cases c26 : ((xs v3.toNatClampNeg) &&& 31) = 12
      · have h := h.1 c26
        refine r_tabIn (pc := 42) (tgt := 552) (off := 510) (v := 12) E c26 dL_law_42 (by decide) (by decide) (by decide) (by decide) ?_
        refine r_aload_n (pc := 552) E dL_law_552 rfl rfl ?_
        refine r_aload_n (pc := 553) E dL_law_553 rfl rfl ?_
        refine r_iload_n (pc := 554) E dL_law_554 rfl rfl ?_
        refine r_iconst (pc := 555) (v := 1) E dL_law_555 (by decide) ?_
        refine r_iadd (pc := 556) E dL_law_556 ?_
        refine r_sld (pc := 557) E HX h.1 dL_law_557 ?_
        have h := h.2
        refine afterI (pc := 558) E (fun H locs ls hP hS hl => runV (As := [.int (xs (v3 + 1).toNatClampNeg)]) (rest := []) E (c_X8_rent X _ _ _  h) ok_0 kc_8.1 ci_X8_rent q_630 rfl rfl rfl rfl dL_law_558 hP hS hl) (fun r25 s25 h => ?_)
        refine r_aload_n (pc := 561) E dL_law_561 rfl rfl ?_
        refine r_aload_n (pc := 562) E dL_law_562 rfl rfl ?_
        refine r_iload_n (pc := 563) E dL_law_563 rfl rfl ?_
        refine r_iconst (pc := 564) (v := 1) E dL_law_564 (by decide) ?_
        refine r_iadd (pc := 565) E dL_law_565 ?_
        refine r_sld (pc := 566) E HX h.1 dL_law_566 ?_
        have h := h.2
        refine afterI (pc := 567) E (fun H locs ls hP hS hl => runV (As := [.int (xs (v3 + 1).toNatClampNeg)]) (rest := [.int r25]) E (c_X9_rent X _ _ _  h) ok_63 kc_9.1 ci_X9_rent q_1071 rfl rfl rfl rfl dL_law_567 hP hS hl) (fun r26 s26 h => ?_)
        refine r_icmp_eq (pc := 570) (tgt := 786) E dL_law_570 (by decide) (fun c27 => ?_) (fun c27 => ?_)
        · have h := h.1 c27
          obtain ⟨x13, ex13⟩ : ∃ z : Int32, z = v3 + 5 := ⟨_, rfl⟩
          have h := h x13 ex13
          refine r_iinc (pc := 786) (v := 5) (lv' := [some (.ref b), some (.ref (xa X 0)), some (.ref (xa X 63)), some (.int x13)]) E dL_law_786 rfl (by decide) rfl rfl (by rw [ex13]; rfl) ?_
          refine r_goto (pc := 789) (tgt := 28) E dL_law_789 (by decide) ?_
          exact r_forget (le_s (le_s (le_s (le_s le_0)))) (ih _ _ h)
        · have h := h.2 c27
          refine r_iconst (pc := 573) (v := 0) E dL_law_573 (by decide) ?_
          exact h.elim
      have h := h.2 c26
      by_cases c28 : ((xs v3.toNatClampNeg) &&& 31) = 13
      · have h := h.1 c28
        refine r_tabIn (pc := 42) (tgt := 575) (off := 533) (v := 13) E c28 dL_law_42 (by decide) (by decide) (by decide) (by decide) ?_
        refine r_aload_n (pc := 575) E dL_law_575 rfl rfl ?_
        refine r_aload_n (pc := 576) E dL_law_576 rfl rfl ?_
        refine r_iload_n (pc := 577) E dL_law_577 rfl rfl ?_
        refine r_iconst (pc := 578) (v := 1) E dL_law_578 (by decide) ?_
        refine r_iadd (pc := 579) E dL_law_579 ?_
        refine r_sld (pc := 580) E HX h.1 dL_law_580 ?_
        have h := h.2
        refine r_aload_n (pc := 581) E dL_law_581 rfl rfl ?_
        refine r_iload_n (pc := 582) E dL_law_582 rfl rfl ?_
        refine r_iconst (pc := 583) (v := 2) E dL_law_583 (by decide) ?_
        refine r_iadd (pc := 584) E dL_law_584 ?_
        refine r_sld (pc := 585) E HX h.1 dL_law_585 ?_
        have h := h.2
        refine r_aload_n (pc := 586) E dL_law_586 rfl rfl ?_
        refine r_iload_n (pc := 587) E dL_law_587 rfl rfl ?_
        refine r_iconst (pc := 588) (v := 3) E dL_law_588 (by decide) ?_
        refine r_iadd (pc := 589) E dL_law_589 ?_
        refine r_sld (pc := 590) E HX h.1 dL_law_590 ?_
        have h := h.2
        refine afterI (pc := 591) E (fun H locs ls hP hS hl => runV (As := [.int (xs (v3 + 1).toNatClampNeg), .int (xs (v3 + 2).toNatClampNeg), .int (xs (v3 + 3).toNatClampNeg)]) (rest := []) E (c_X8_unpaid X _ _ _ _ _  h) ok_0 kc_8.1 ci_X8_unpaid q_641 rfl rfl rfl rfl dL_law_591 hP hS hl) (fun r27 s27 h => ?_)
        refine r_aload_n (pc := 594) E dL_law_594 rfl rfl ?_
        refine r_aload_n (pc := 595) E dL_law_595 rfl rfl ?_
        refine r_iload_n (pc := 596) E dL_law_596 rfl rfl ?_
        refine r_iconst (pc := 597) (v := 1) E dL_law_597 (by decide) ?_
        refine r_iadd (pc := 598) E dL_law_598 ?_
        refine r_sld (pc := 599) E HX h.1 dL_law_599 ?_
        have h := h.2
        refine r_aload_n (pc := 600) E dL_law_600 rfl rfl ?_
        refine r_iload_n (pc := 601) E dL_law_601 rfl rfl ?_
        refine r_iconst (pc := 602) (v := 2) E dL_law_602 (by decide) ?_
        refine r_iadd (pc := 603) E dL_law_603 ?_
        refine r_sld (pc := 604) E HX h.1 dL_law_604 ?_
        have h := h.2
        refine r_aload_n (pc := 605) E dL_law_605 rfl rfl ?_
        refine r_iload_n (pc := 606) E dL_law_606 rfl rfl ?_
        refine r_iconst (pc := 607) (v := 3) E dL_law_607 (by decide) ?_
        refine r_iadd (pc := 608) E dL_law_608 ?_
        refine r_sld (pc := 609) E HX h.1 dL_law_609 ?_
        have h := h.2
        refine afterI (pc := 610) E (fun H locs ls hP hS hl => runV (As := [.int (xs (v3 + 1).toNatClampNeg), .int (xs (v3 + 2).toNatClampNeg), .int (xs (v3 + 3).toNatClampNeg)]) (rest := [.int r27]) E (c_X9_unpaid X _ _ _ _ _  h) ok_63 kc_9.1 ci_X9_unpaid q_1076 rfl rfl rfl rfl dL_law_610 hP hS hl) (fun r28 s28 h => ?_)
        refine r_icmp_eq (pc := 613) (tgt := 786) E dL_law_613 (by decide) (fun c29 => ?_) (fun c29 => ?_)
        · have h := h.1 c29
          obtain ⟨x14, ex14⟩ : ∃ z : Int32, z = v3 + 5 := ⟨_, rfl⟩
          have h := h x14 ex14
          refine r_iinc (pc := 786) (v := 5) (lv' := [some (.ref b), some (.ref (xa X 0)), some (.ref (xa X 63)), some (.int x14)]) E dL_law_786 rfl (by decide) rfl rfl (by rw [ex14]; rfl) ?_
          refine r_goto (pc := 789) (tgt := 28) E dL_law_789 (by decide) ?_
          exact r_forget (le_s (le_s (le_s (le_s le_0)))) (ih _ _ h)
        · have h := h.2 c29
          refine r_iconst (pc := 616) (v := 0) E dL_law_616 (by decide) ?_
          exact h.elim
      have h := h.2 c28
      by_cases c30 : ((xs v3.toNatClampNeg) &&& 31) = 14
      · have h := h.1 c30
        refine r_tabIn (pc := 42) (tgt := 618) (off := 576) (v := 14) E c30 dL_law_42 (by decide) (by decide) (by decide) (by decide) ?_
        refine r_aload_n (pc := 618) E dL_law_618 rfl rfl ?_
        refine r_aload_n (pc := 619) E dL_law_619 rfl rfl ?_
        refine r_iload_n (pc := 620) E dL_law_620 rfl rfl ?_
        refine r_iconst (pc := 621) (v := 1) E dL_law_621 (by decide) ?_
        refine r_iadd (pc := 622) E dL_law_622 ?_
        refine r_sld (pc := 623) E HX h.1 dL_law_623 ?_
        have h := h.2
        refine r_aload_n (pc := 624) E dL_law_624 rfl rfl ?_
        refine r_iload_n (pc := 625) E dL_law_625 rfl rfl ?_
        refine r_iconst (pc := 626) (v := 2) E dL_law_626 (by decide) ?_
        refine r_iadd (pc := 627) E dL_law_627 ?_
        refine r_sld (pc := 628) E HX h.1 dL_law_628 ?_
        have h := h.2
        refine afterI (pc := 629) E (fun H locs ls hP hS hl => runV (As := [.int (xs (v3 + 1).toNatClampNeg), .int (xs (v3 + 2).toNatClampNeg)]) (rest := []) E (c_X8_walk X _ _ _ _  h) ok_0 kc_8.1 ci_X8_walk q_645 rfl rfl rfl rfl dL_law_629 hP hS hl) (fun r29 s29 h => ?_)
        refine r_aload_n (pc := 632) E dL_law_632 rfl rfl ?_
        refine r_aload_n (pc := 633) E dL_law_633 rfl rfl ?_
        refine r_iload_n (pc := 634) E dL_law_634 rfl rfl ?_
        refine r_iconst (pc := 635) (v := 1) E dL_law_635 (by decide) ?_
        refine r_iadd (pc := 636) E dL_law_636 ?_
        refine r_sld (pc := 637) E HX h.1 dL_law_637 ?_
        have h := h.2
        refine r_aload_n (pc := 638) E dL_law_638 rfl rfl ?_
        refine r_iload_n (pc := 639) E dL_law_639 rfl rfl ?_
        refine r_iconst (pc := 640) (v := 2) E dL_law_640 (by decide) ?_
        refine r_iadd (pc := 641) E dL_law_641 ?_
        refine r_sld (pc := 642) E HX h.1 dL_law_642 ?_
        have h := h.2
        refine afterI (pc := 643) E (fun H locs ls hP hS hl => runV (As := [.int (xs (v3 + 1).toNatClampNeg), .int (xs (v3 + 2).toNatClampNeg)]) (rest := [.int r29]) E (c_X9_walk X _ _ _ _  h) ok_63 kc_9.1 ci_X9_walk q_1080 rfl rfl rfl rfl dL_law_643 hP hS hl) (fun r30 s30 h => ?_)
        refine r_icmp_eq (pc := 646) (tgt := 786) E dL_law_646 (by decide) (fun c31 => ?_) (fun c31 => ?_)
        · have h := h.1 c31
          obtain ⟨x15, ex15⟩ : ∃ z : Int32, z = v3 + 5 := ⟨_, rfl⟩
          have h := h x15 ex15
          refine r_iinc (pc := 786) (v := 5) (lv' := [some (.ref b), some (.ref (xa X 0)), some (.ref (xa X 63)), some (.int x15)]) E dL_law_786 rfl (by decide) rfl rfl (by rw [ex15]; rfl) ?_
          refine r_goto (pc := 789) (tgt := 28) E dL_law_789 (by decide) ?_
          exact r_forget (le_s (le_s (le_s (le_s le_0)))) (ih _ _ h)
        · have h := h.2 c31
          refine r_iconst (pc := 649) (v := 0) E dL_law_649 (by decide) ?_
          exact h.elim
      have h := h.2 c30
      by_cases c32 : ((xs v3.toNatClampNeg) &&& 31) = 15
      · have h := h.1 c32
        refine r_tabIn (pc := 42) (tgt := 651) (off := 609) (v := 15) E c32 dL_law_42 (by decide) (by decide) (by decide) (by decide) ?_
        refine r_aload_n (pc := 651) E dL_law_651 rfl rfl ?_
        refine r_aload_n (pc := 652) E dL_law_652 rfl rfl ?_
        refine r_iload_n (pc := 653) E dL_law_653 rfl rfl ?_
        refine r_iconst (pc := 654) (v := 1) E dL_law_654 (by decide) ?_
        refine r_iadd (pc := 655) E dL_law_655 ?_
        refine r_sld (pc := 656) E HX h.1 dL_law_656 ?_
        have h := h.2
        refine afterI (pc := 657) E (fun H locs ls hP hS hl => runV (As := [.int (xs (v3 + 1).toNatClampNeg)]) (rest := []) E (c_X8_kind X _ _ _  h) ok_0 kc_8.1 ci_X8_kind q_691 rfl rfl rfl rfl dL_law_657 hP hS hl) (fun r31 s31 h => ?_)
        refine r_aload_n (pc := 660) E dL_law_660 rfl rfl ?_
        refine r_aload_n (pc := 661) E dL_law_661 rfl rfl ?_
        refine r_iload_n (pc := 662) E dL_law_662 rfl rfl ?_
        refine r_iconst (pc := 663) (v := 1) E dL_law_663 (by decide) ?_
        refine r_iadd (pc := 664) E dL_law_664 ?_
        refine r_sld (pc := 665) E HX h.1 dL_law_665 ?_
        have h := h.2
        refine afterI (pc := 666) E (fun H locs ls hP hS hl => runV (As := [.int (xs (v3 + 1).toNatClampNeg)]) (rest := [.int r31]) E (c_X9_kind X _ _ _  h) ok_63 kc_9.1 ci_X9_kind q_1088 rfl rfl rfl rfl dL_law_666 hP hS hl) (fun r32 s32 h => ?_)
        refine r_icmp_eq (pc := 669) (tgt := 786) E dL_law_669 (by decide) (fun c33 => ?_) (fun c33 => ?_)
        · have h := h.1 c33
          obtain ⟨x16, ex16⟩ : ∃ z : Int32, z = v3 + 5 := ⟨_, rfl⟩
          have h := h x16 ex16
          refine r_iinc (pc := 786) (v := 5) (lv' := [some (.ref b), some (.ref (xa X 0)), some (.ref (xa X 63)), some (.int x16)]) E dL_law_786 rfl (by decide) rfl rfl (by rw [ex16]; rfl) ?_
          refine r_goto (pc := 789) (tgt := 28) E dL_law_789 (by decide) ?_
          exact r_forget (le_s (le_s (le_s (le_s le_0)))) (ih _ _ h)
        · have h := h.2 c33
          refine r_iconst (pc := 672) (v := 0) E dL_law_672 (by decide) ?_
          exact h.elim
      have h := h.2 c32
      by_cases c34 : ((xs v3.toNatClampNeg) &&& 31) = 16
      · have h := h.1 c34
        refine r_tabIn (pc := 42) (tgt := 674) (off := 632) (v := 16) E c34 dL_law_42 (by decide) (by decide) (by decide) (by decide) ?_
        refine r_aload_n (pc := 674) E dL_law_674 rfl rfl ?_
        refine r_aload_n (pc := 675) E dL_law_675 rfl rfl ?_
        refine r_iload_n (pc := 676) E dL_law_676 rfl rfl ?_
        refine r_iconst (pc := 677) (v := 1) E dL_law_677 (by decide) ?_
        refine r_iadd (pc := 678) E dL_law_678 ?_
        refine r_sld (pc := 679) E HX h.1 dL_law_679 ?_
        have h := h.2
        refine r_aload_n (pc := 680) E dL_law_680 rfl rfl ?_
        refine r_iload_n (pc := 681) E dL_law_681 rfl rfl ?_
        refine r_iconst (pc := 682) (v := 2) E dL_law_682 (by decide) ?_
        refine r_iadd (pc := 683) E dL_law_683 ?_
        refine r_sld (pc := 684) E HX h.1 dL_law_684 ?_
        have h := h.2
        refine afterI (pc := 685) E (fun H locs ls hP hS hl => runV (As := [.int (xs (v3 + 1).toNatClampNeg), .int (xs (v3 + 2).toNatClampNeg)]) (rest := []) E (c_X8_as X _ _ _ _  h) ok_0 kc_8.1 ci_X8_as q_700 rfl rfl rfl rfl dL_law_685 hP hS hl) (fun r33 s33 h => ?_)
        refine r_aload_n (pc := 688) E dL_law_688 rfl rfl ?_
        refine r_aload_n (pc := 689) E dL_law_689 rfl rfl ?_
        refine r_iload_n (pc := 690) E dL_law_690 rfl rfl ?_
        refine r_iconst (pc := 691) (v := 1) E dL_law_691 (by decide) ?_
        refine r_iadd (pc := 692) E dL_law_692 ?_
        refine r_sld (pc := 693) E HX h.1 dL_law_693 ?_
        have h := h.2
        refine r_aload_n (pc := 694) E dL_law_694 rfl rfl ?_
        refine r_iload_n (pc := 695) E dL_law_695 rfl rfl ?_
        refine r_iconst (pc := 696) (v := 2) E dL_law_696 (by decide) ?_
        refine r_iadd (pc := 697) E dL_law_697 ?_
        refine r_sld (pc := 698) E HX h.1 dL_law_698 ?_
        have h := h.2
        refine afterI (pc := 699) E (fun H locs ls hP hS hl => runV (As := [.int (xs (v3 + 1).toNatClampNeg), .int (xs (v3 + 2).toNatClampNeg)]) (rest := [.int r33]) E (c_X9_as X _ _ _ _  h) ok_63 kc_9.1 ci_X9_as q_1096 rfl rfl rfl rfl dL_law_699 hP hS hl) (fun r34 s34 h => ?_)
        refine r_icmp_eq (pc := 702) (tgt := 786) E dL_law_702 (by decide) (fun c35 => ?_) (fun c35 => ?_)
        · have h := h.1 c35
          obtain ⟨x17, ex17⟩ : ∃ z : Int32, z = v3 + 5 := ⟨_, rfl⟩
          have h := h x17 ex17
          refine r_iinc (pc := 786) (v := 5) (lv' := [some (.ref b), some (.ref (xa X 0)), some (.ref (xa X 63)), some (.int x17)]) E dL_law_786 rfl (by decide) rfl rfl (by rw [ex17]; rfl) ?_
          refine r_goto (pc := 789) (tgt := 28) E dL_law_789 (by decide) ?_
          exact r_forget (le_s (le_s (le_s (le_s le_0)))) (ih _ _ h)
        · have h := h.2 c35
          refine r_iconst (pc := 705) (v := 0) E dL_law_705 (by decide) ?_
          exact h.elim
      have h := h.2 c34
      by_cases c36 : ((xs v3.toNatClampNeg) &&& 31) = 17
      · have h := h.1 c36
        refine r_tabIn (pc := 42) (tgt := 707) (off := 665) (v := 17) E c36 dL_law_42 (by decide) (by decide) (by decide) (by decide) ?_
        refine r_aload_n (pc := 707) E dL_law_707 rfl rfl ?_
        refine r_aload_n (pc := 708) E dL_law_708 rfl rfl ?_
        refine r_iload_n (pc := 709) E dL_law_709 rfl rfl ?_
        refine r_iconst (pc := 710) (v := 1) E dL_law_710 (by decide) ?_
        refine r_iadd (pc := 711) E dL_law_711 ?_
        refine r_sld (pc := 712) E HX h.1 dL_law_712 ?_
        have h := h.2
        refine r_aload_n (pc := 713) E dL_law_713 rfl rfl ?_
        refine r_iload_n (pc := 714) E dL_law_714 rfl rfl ?_
        refine r_iconst (pc := 715) (v := 2) E dL_law_715 (by decide) ?_
        refine r_iadd (pc := 716) E dL_law_716 ?_
        refine r_sld (pc := 717) E HX h.1 dL_law_717 ?_
        have h := h.2
        refine afterI (pc := 718) E (fun H locs ls hP hS hl => runV (As := [.int (xs (v3 + 1).toNatClampNeg), .int (xs (v3 + 2).toNatClampNeg)]) (rest := []) E (c_X8_ask X _ _ _ _  h) ok_0 kc_8.1 ci_X8_ask q_710 rfl rfl rfl rfl dL_law_718 hP hS hl) (fun r35 s35 h => ?_)
        refine r_aload_n (pc := 721) E dL_law_721 rfl rfl ?_
        refine r_aload_n (pc := 722) E dL_law_722 rfl rfl ?_
        refine r_iload_n (pc := 723) E dL_law_723 rfl rfl ?_
        refine r_iconst (pc := 724) (v := 1) E dL_law_724 (by decide) ?_
        refine r_iadd (pc := 725) E dL_law_725 ?_
        refine r_sld (pc := 726) E HX h.1 dL_law_726 ?_
        have h := h.2
        refine r_aload_n (pc := 727) E dL_law_727 rfl rfl ?_
        refine r_iload_n (pc := 728) E dL_law_728 rfl rfl ?_
        refine r_iconst (pc := 729) (v := 2) E dL_law_729 (by decide) ?_
        refine r_iadd (pc := 730) E dL_law_730 ?_
        refine r_sld (pc := 731) E HX h.1 dL_law_731 ?_
        have h := h.2
        refine afterI (pc := 732) E (fun H locs ls hP hS hl => runV (As := [.int (xs (v3 + 1).toNatClampNeg), .int (xs (v3 + 2).toNatClampNeg)]) (rest := [.int r35]) E (c_X9_ask X _ _ _ _  h) ok_63 kc_9.1 ci_X9_ask q_1101 rfl rfl rfl rfl dL_law_732 hP hS hl) (fun r36 s36 h => ?_)
        refine r_icmp_eq (pc := 735) (tgt := 786) E dL_law_735 (by decide) (fun c37 => ?_) (fun c37 => ?_)
        · have h := h.1 c37
          obtain ⟨x18, ex18⟩ : ∃ z : Int32, z = v3 + 5 := ⟨_, rfl⟩
          have h := h x18 ex18
          refine r_iinc (pc := 786) (v := 5) (lv' := [some (.ref b), some (.ref (xa X 0)), some (.ref (xa X 63)), some (.int x18)]) E dL_law_786 rfl (by decide) rfl rfl (by rw [ex18]; rfl) ?_
          refine r_goto (pc := 789) (tgt := 28) E dL_law_789 (by decide) ?_
          exact r_forget (le_s (le_s (le_s (le_s le_0)))) (ih _ _ h)
        · have h := h.2 c37
          refine r_iconst (pc := 738) (v := 0) E dL_law_738 (by decide) ?_
          exact h.elim
      have h := h.2 c36
      by_cases c38 : ((xs v3.toNatClampNeg) &&& 31) = 18
      · have h := h.1 c38
        refine r_tabIn (pc := 42) (tgt := 740) (off := 698) (v := 18) E c38 dL_law_42 (by decide) (by decide) (by decide) (by decide) ?_
        refine r_aload_n (pc := 740) E dL_law_740 rfl rfl ?_
        refine r_aload_n (pc := 741) E dL_law_741 rfl rfl ?_
        refine r_iload_n (pc := 742) E dL_law_742 rfl rfl ?_
        refine r_iconst (pc := 743) (v := 1) E dL_law_743 (by decide) ?_
        refine r_iadd (pc := 744) E dL_law_744 ?_
        refine r_sld (pc := 745) E HX h.1 dL_law_745 ?_
        have h := h.2
        refine afterI (pc := 746) E (fun H locs ls hP hS hl => runV (As := [.int (xs (v3 + 1).toNatClampNeg)]) (rest := []) E (c_X8_trace X _ _ _  h) ok_0 kc_8.1 ci_X8_trace q_755 rfl rfl rfl rfl dL_law_746 hP hS hl) (fun r37 s37 h => ?_)
        refine r_aload_n (pc := 749) E dL_law_749 rfl rfl ?_
        refine r_aload_n (pc := 750) E dL_law_750 rfl rfl ?_
        refine r_iload_n (pc := 751) E dL_law_751 rfl rfl ?_
        refine r_iconst (pc := 752) (v := 1) E dL_law_752 (by decide) ?_
        refine r_iadd (pc := 753) E dL_law_753 ?_
        refine r_sld (pc := 754) E HX h.1 dL_law_754 ?_
        have h := h.2
        refine afterI (pc := 755) E (fun H locs ls hP hS hl => runV (As := [.int (xs (v3 + 1).toNatClampNeg)]) (rest := [.int r37]) E (c_X9_trace X _ _ _  h) ok_63 kc_9.1 ci_X9_trace q_1121 rfl rfl rfl rfl dL_law_755 hP hS hl) (fun r38 s38 h => ?_)
        refine r_icmp_eq (pc := 758) (tgt := 786) E dL_law_758 (by decide) (fun c39 => ?_) (fun c39 => ?_)
        · have h := h.1 c39
          obtain ⟨x19, ex19⟩ : ∃ z : Int32, z = v3 + 5 := ⟨_, rfl⟩
          have h := h x19 ex19
          refine r_iinc (pc := 786) (v := 5) (lv' := [some (.ref b), some (.ref (xa X 0)), some (.ref (xa X 63)), some (.int x19)]) E dL_law_786 rfl (by decide) rfl rfl (by rw [ex19]; rfl) ?_
          refine r_goto (pc := 789) (tgt := 28) E dL_law_789 (by decide) ?_
          exact r_forget (le_s (le_s (le_s (le_s le_0)))) (ih _ _ h)
        · have h := h.2 c39
          refine r_iconst (pc := 761) (v := 0) E dL_law_761 (by decide) ?_
          exact h.elim
      have h := h.2 c38
      by_cases c40 : ((xs v3.toNatClampNeg) &&& 31) = 19
      · have h := h.1 c40
        refine r_tabIn (pc := 42) (tgt := 763) (off := 721) (v := 19) E c40 dL_law_42 (by decide) (by decide) (by decide) (by decide) ?_
        refine r_aload_n (pc := 763) E dL_law_763 rfl rfl ?_
        refine r_aload_n (pc := 764) E dL_law_764 rfl rfl ?_
        refine r_iload_n (pc := 765) E dL_law_765 rfl rfl ?_
        refine r_iconst (pc := 766) (v := 1) E dL_law_766 (by decide) ?_
        refine r_iadd (pc := 767) E dL_law_767 ?_
        refine r_sld (pc := 768) E HX h.1 dL_law_768 ?_
        have h := h.2
        refine afterI (pc := 769) E (fun H locs ls hP hS hl => runV (As := [.int (xs (v3 + 1).toNatClampNeg)]) (rest := []) E (c_X8_count X _ _ _  h) ok_0 kc_8.1 ci_X8_count q_759 rfl rfl rfl rfl dL_law_769 hP hS hl) (fun r39 s39 h => ?_)
        refine r_aload_n (pc := 772) E dL_law_772 rfl rfl ?_
        refine r_aload_n (pc := 773) E dL_law_773 rfl rfl ?_
        refine r_iload_n (pc := 774) E dL_law_774 rfl rfl ?_
        refine r_iconst (pc := 775) (v := 1) E dL_law_775 (by decide) ?_
        refine r_iadd (pc := 776) E dL_law_776 ?_
        refine r_sld (pc := 777) E HX h.1 dL_law_777 ?_
        have h := h.2
        refine afterI (pc := 778) E (fun H locs ls hP hS hl => runV (As := [.int (xs (v3 + 1).toNatClampNeg)]) (rest := [.int r39]) E (c_X9_count X _ _ _  h) ok_63 kc_9.1 ci_X9_count q_1125 rfl rfl rfl rfl dL_law_778 hP hS hl) (fun r40 s40 h => ?_)
        refine r_icmp_eq (pc := 781) (tgt := 786) E dL_law_781 (by decide) (fun c41 => ?_) (fun c41 => ?_)
        · have h := h.1 c41
          obtain ⟨x20, ex20⟩ : ∃ z : Int32, z = v3 + 5 := ⟨_, rfl⟩
          have h := h x20 ex20
          refine r_iinc (pc := 786) (v := 5) (lv' := [some (.ref b), some (.ref (xa X 0)), some (.ref (xa X 63)), some (.int x20)]) E dL_law_786 rfl (by decide) rfl rfl (by rw [ex20]; rfl) ?_
          refine r_goto (pc := 789) (tgt := 28) E dL_law_789 (by decide) ?_
          exact r_forget (le_s (le_s (le_s (le_s le_0)))) (ih _ _ h)
        · have h := h.2 c41
          refine r_iconst (pc := 784) (v := 0) E dL_law_784 (by decide) ?_
          exact h.elim
      have h := h.2 c40
      refine r_tabOut (pc := 42) (tgt := 786) E 0 20 (by decide) (fun j hj => match j, hj with | 0, _ => c2 | 1, _ => c4 | 2, _ => c6 | 3, _ => c8 | 4, _ => c10 | 5, _ => c12 | 6, _ => c14 | 7, _ => c16 | 8, _ => c18 | 9, _ => c20 | 10, _ => c22 | 11, _ => c24 | 12, _ => c26 | 13, _ => c28 | 14, _ => c30 | 15, _ => c32 | 16, _ => c34 | 17, _ => c36 | 18, _ => c38 | 19, _ => c40 | j + 20, hj => absurd hj (by omega)) dL_law_42 (by decide) (by decide) (by decide) ?_
      obtain ⟨x21, ex21⟩ : ∃ z : Int32, z = v3 + 5 := ⟨_, rfl⟩
      have h := h x21 ex21
      refine r_iinc (pc := 786) (v := 5) (lv' := [some (.ref b), some (.ref (xa X 0)), some (.ref (xa X 63)), some (.int x21)]) E dL_law_786 rfl (by decide) rfl rfl (by rw [ex21]; rfl) ?_
      refine r_goto (pc := 789) (tgt := 28) E dL_law_789 (by decide) ?_
      exact r_forget (le_s (le_s (le_s (le_s le_0)))) (ih _ _ h)
