/-! ChairFront$Rules.addRent -/
def rm_X3_addRent : Room := { frames := 0, cells := 0, slots := 0, locals := 0 }
theorem ci_X3_addRent : CI yX3_addRent RX3 cX3_addRent 3 none 2 := ⟨q_622, q_623, q_60, q_624, by decide +kernel⟩
def w_X3_addRent (s0 : ST) (k0 : Nat) (a1 : Int32) (a2 : Int32) (Q : ST → Prop) : Prop := vp_in (s0 k0 3) 5 ∧ (∀ s1 : ST, s1 = up s0 (4 * k0 - 18 + 2 - 1) (s0 k0 3).toNatClampNeg a1 → (vp_in (s1 k0 3) 5 ∧ (∀ s2 : ST, s2 = up s1 (4 * k0 - 18 + 3 - 1) (s1 k0 3).toNatClampNeg a2 → (∀ s3 : ST, s3 = up s2 k0 3 ((s2 k0 3) + 1) → (Q s3)))))
set_option maxRecDepth 100000 in
set_option maxHeartbeats 4000000 in
theorem c_X3_addRent {l : Launch} (X : XT) (s0 : ST) (k0 : Nat) (a1 : Int32) (a2 : Int32) (Q : ST → Prop) (hk0 : okc 3 k0) (h : w_X3_addRent s0 k0 a1 a2 Q) : MetV l yX3_addRent (wS yX3_addRent cX3_addRent 3 none) rm_X3_addRent X s0 [.ref (xa X k0), .int a1, .int a2] Q := by
  refine metG (own := RX3) (k := 0) (lv0 := [some (.ref (xa X k0)), some (.int a1), some (.int a2)]) (by decide) rfl rfl rfl ?_
  intro p e s m args below meth c E hr
  refine r_aload_n (pc := 0) E dX3_addRent_0 rfl rfl ?_
  refine r_get (pc := 1) (j := 6) E hk0 kc_3 rfl q_208 (svR hk0 2 rfl) dX3_addRent_1 ?_
  refine r_aload_n (pc := 4) E dX3_addRent_4 rfl rfl ?_
  refine r_get (pc := 5) (j := 3) E hk0 kc_3 rfl q_204 (svI (r0R hk0 rfl)) dX3_addRent_5 ?_
  refine r_iload_n (pc := 8) E dX3_addRent_8 rfl rfl ?_
  refine r_iast (pc := 9) (n := 5) E (okRA hk0 2 rfl) (lnRA hk0 2 rfl) h.1 dX3_addRent_9 (fun s1 es1 => ?_)
  have h := h.2 s1 es1
  refine r_aload_n (pc := 10) E dX3_addRent_10 rfl rfl ?_
  refine r_get (pc := 11) (j := 7) E hk0 kc_3 rfl q_209 (svR hk0 3 rfl) dX3_addRent_11 ?_
  refine r_aload_n (pc := 14) E dX3_addRent_14 rfl rfl ?_
  refine r_get (pc := 15) (j := 3) E hk0 kc_3 rfl q_204 (svI (r0R hk0 rfl)) dX3_addRent_15 ?_
  refine r_iload_n (pc := 18) E dX3_addRent_18 rfl rfl ?_
  refine r_iast (pc := 19) (n := 5) E (okRA hk0 3 rfl) (lnRA hk0 3 rfl) h.1 dX3_addRent_19 (fun s2 es2 => ?_)
  have h := h.2 s2 es2
  refine r_aload_n (pc := 20) E dX3_addRent_20 rfl rfl ?_
  refine r_dup (pc := 21) E dX3_addRent_21 rfl ?_
  refine r_get (pc := 22) (j := 3) E hk0 kc_3 rfl q_204 (svI (r0R hk0 rfl)) dX3_addRent_22 ?_
  refine r_iconst (pc := 25) (v := 1) E dX3_addRent_25 (by decide) ?_
  refine r_iadd (pc := 26) E dX3_addRent_26 ?_
  refine r_put (pc := 27) (j := 3) E hk0 kc_3 rfl q_204 (r0R hk0 rfl) rfl rfl dX3_addRent_27 (fun s3 es3 => ?_)
  have h := h s3 es3
  exact r_vret (pc := 30) E hr dX3_addRent_30 h

/-! ChairFront.fault -/
def rm_X8_fault : Room := { frames := 0, cells := 0, slots := 0, locals := 0 }
theorem ci_X8_fault : CI yX8_fault RX8 cX8_fault 1 (some .int) 0 := ⟨q_627, q_628, q_55, q_629, by decide +kernel⟩
def w_X8_fault (s0 : ST) (Q : Int32 → ST → Prop) : Prop := Q (s0 0 13) s0
set_option maxRecDepth 100000 in
set_option maxHeartbeats 4000000 in
theorem c_X8_fault {l : Launch} (X : XT) (s0 : ST) (Q : Int32 → ST → Prop) (h : w_X8_fault s0 Q) : MetI l yX8_fault (wS yX8_fault cX8_fault 1 (some .int)) rm_X8_fault X s0 [.ref (xa X 0)] Q := by
  refine metG (own := RX8) (k := 0) (lv0 := [some (.ref (xa X 0))]) (by decide) rfl rfl rfl ?_
  intro p e s m args below meth c E hr
  refine r_aload_n (pc := 0) E dX8_fault_0 rfl rfl ?_
  refine r_get (pc := 1) (j := 13) E ok_0 kc_8 rfl q_316 (svI rfl) dX8_fault_1 ?_
  exact r_iret (pc := 4) E hr dX8_fault_4 h

/-! ChairFront$Rules.rentOf -/
def rm_X3_rentOf : Room := { frames := 1, cells := 0, slots := 0, locals := 21 }
theorem ci_X3_rentOf : CI yX3_rentOf RX3 cX3_rentOf 6 (some .int) 1 := ⟨q_635, q_636, q_60, q_637, by decide +kernel⟩
def w_X3_rentOf_L7 (v0 : Nat) (v1 : Int32) (K : ST → Int32 → Prop) (Q : Int32 → ST → Prop) : Nat → ST → Int32 → Int32 → Int32 → Prop
  | 0, _, _, _, _ => False
  | n + 1, s0, v2, v3, v4 => (((s0 v0 3) ≤ v4 → (K s0 v2)) ∧ (¬ ((s0 v0 3) ≤ v4) → (vp_in v4 5 ∧ (∀ x1 : Int32, x1 = (if (0 : Int32) < ((if (s0 (4 * v0 - 18 + 2 - 1) v4.toNatClampNeg) < v1 then (s0 (4 * v0 - 18 + 2 - 1) v4.toNatClampNeg) else v1) - v3) then ((if (s0 (4 * v0 - 18 + 2 - 1) v4.toNatClampNeg) < v1 then (s0 (4 * v0 - 18 + 2 - 1) v4.toNatClampNeg) else v1) - v3) else 0) → (vp_in v4 5 ∧ (∀ x2 : Int32, x2 = (v2 + ((x1 * (s0 (4 * v0 - 18 + 3 - 1) v4.toNatClampNeg)) / 100)) → (vp_in v4 5 ∧ (∀ x3 : Int32, x3 = (s0 (4 * v0 - 18 + 2 - 1) v4.toNatClampNeg) → (∀ x4 : Int32, x4 = v4 + 1 → (w_X3_rentOf_L7 v0 v1 K Q n s0 x2 x3 x4))))))))))
set_option maxRecDepth 100000 in
set_option maxHeartbeats 4000000 in
theorem t_X3_rentOf_L7 {p : Program} {l : Launch} {e : Env} {s : State} {m : MethodId} {args : Array Value} {below : List Frame} {meth : Method} {c : Code} {X : XT} (E : Ev p rm_X3_rentOf s m args meth c X (xA X) 6 0 0 cX3_rentOf RX3) (hr : meth.sig.returnType = (some .int)) {v0 : Nat} {v1 : Int32} {K : ST → Int32 → Prop} {Q : Int32 → ST → Prop} (ho0 : okc 3 v0) (hK : ∀ (s0 : ST) (v2 : Int32), K s0 v2 → G p l e rm_X3_rentOf s m args below meth c X (xA X) 6 0 0 (MQ below (va_Qi Q (Bw X) (xA X)) args s 0 0 (xA X)) s0 65 [none, none, some (.int v2), none, none, none] []) : ∀ (n : Nat) (s0 : ST) (v2 : Int32) (v3 : Int32) (v4 : Int32), w_X3_rentOf_L7 v0 v1 K Q n s0 v2 v3 v4 → G p l e rm_X3_rentOf s m args below meth c X (xA X) 6 0 0 (MQ below (va_Qi Q (Bw X) (xA X)) args s 0 0 (xA X)) s0 7 [some (.ref (xa X v0)), some (.int v1), some (.int v2), some (.int v3), some (.int v4), none] [] := by
  intro n
  induction n with
  | zero => intro s0 v2 v3 v4 h; exact h.elim
  | succ n ih =>
    intro s0 v2 v3 v4 h
    refine r_iload (pc := 7) E dX3_rentOf_7 rfl ?_
    refine r_aload_n (pc := 9) E dX3_rentOf_9 rfl rfl ?_
    refine r_get (pc := 10) (j := 3) E ho0 kc_3 rfl q_204 (svI (r0R ho0 rfl)) dX3_rentOf_10 ?_
    refine r_icmp_ge (pc := 13) (tgt := 65) E dX3_rentOf_13 (by decide) (fun c1 => ?_) (fun c1 => ?_)
    · have h := h.1 c1
      exact r_forget (le_n (le_n (le_s (le_n (le_n (le_n le_0)))))) (hK _ _ h)
    · have h := h.2 c1
      refine r_iconst (pc := 16) (v := 0) E dX3_rentOf_16 (by decide) ?_
      refine r_iload_n (pc := 17) E dX3_rentOf_17 rfl rfl ?_
      refine r_aload_n (pc := 18) E dX3_rentOf_18 rfl rfl ?_
      refine r_get (pc := 19) (j := 6) E ho0 kc_3 rfl q_208 (svR ho0 2 rfl) dX3_rentOf_19 ?_
      refine r_iload (pc := 22) E dX3_rentOf_22 rfl ?_
      refine r_iald (pc := 24) (n := 5) E (okRA ho0 2 rfl) (lnRA ho0 2 rfl) h.1 dX3_rentOf_24 ?_
      have h := h.2
      refine r_mmin (pc := 25) E ql_min_35_638 qs_min q_63 q_min rfl rfl rfl dX3_rentOf_25 ?_
      refine r_iload_n (pc := 28) E dX3_rentOf_28 rfl rfl ?_
      refine r_isub (pc := 29) E dX3_rentOf_29 ?_
      refine r_mmax (pc := 30) E ql_max_41_639 qs_max q_63 q_max rfl rfl rfl dX3_rentOf_30 ?_
      refine r_topi (fun x1 ex1 => ?_)
      have h := h x1 ex1
      refine r_istore (pc := 33) (lv' := [some (.ref (xa X v0)), some (.int v1), some (.int v2), some (.int v3), some (.int v4), some (.int x1)]) E dX3_rentOf_33 rfl rfl rfl ?_
      refine r_iload_n (pc := 35) E dX3_rentOf_35 rfl rfl ?_
      refine r_iload (pc := 36) E dX3_rentOf_36 rfl ?_
      refine r_aload_n (pc := 38) E dX3_rentOf_38 rfl rfl ?_
      refine r_get (pc := 39) (j := 7) E ho0 kc_3 rfl q_209 (svR ho0 3 rfl) dX3_rentOf_39 ?_
      refine r_iload (pc := 42) E dX3_rentOf_42 rfl ?_
      refine r_iald (pc := 44) (n := 5) E (okRA ho0 3 rfl) (lnRA ho0 3 rfl) h.1 dX3_rentOf_44 ?_
      have h := h.2
      refine r_imul (pc := 45) E dX3_rentOf_45 ?_
      refine r_bipush (pc := 46) (v := 100) E dX3_rentOf_46 (by decide) ?_
      refine r_idiv (pc := 48) E dX3_rentOf_48 (by decide) ?_
      refine r_iadd (pc := 49) E dX3_rentOf_49 ?_
      refine r_topi (fun x2 ex2 => ?_)
      have h := h x2 ex2
      refine r_istore_n (pc := 50) (lv' := [some (.ref (xa X v0)), some (.int v1), some (.int x2), some (.int v3), some (.int v4), some (.int x1)]) E dX3_rentOf_50 rfl rfl rfl rfl ?_
      refine r_aload_n (pc := 51) E dX3_rentOf_51 rfl rfl ?_
      refine r_get (pc := 52) (j := 6) E ho0 kc_3 rfl q_208 (svR ho0 2 rfl) dX3_rentOf_52 ?_
      refine r_iload (pc := 55) E dX3_rentOf_55 rfl ?_
      refine r_iald (pc := 57) (n := 5) E (okRA ho0 2 rfl) (lnRA ho0 2 rfl) h.1 dX3_rentOf_57 ?_
      have h := h.2
      refine r_topi (fun x3 ex3 => ?_)
      have h := h x3 ex3
      refine r_istore_n (pc := 58) (lv' := [some (.ref (xa X v0)), some (.int v1), some (.int x2), some (.int x3), some (.int v4), some (.int x1)]) E dX3_rentOf_58 rfl rfl rfl rfl ?_
      obtain ⟨x4, ex4⟩ : ∃ z : Int32, z = v4 + 1 := ⟨_, rfl⟩
      have h := h x4 ex4
      refine r_iinc (pc := 59) (v := 1) (lv' := [some (.ref (xa X v0)), some (.int v1), some (.int x2), some (.int x3), some (.int x4), some (.int x1)]) E dX3_rentOf_59 rfl (by decide) rfl rfl (by rw [ex4]; rfl) ?_
      refine r_goto (pc := 62) (tgt := 7) E dX3_rentOf_62 (by decide) ?_
      exact r_forget (le_s (le_s (le_s (le_s (le_s (le_n le_0)))))) (ih _ _ _ _ h)

def w_X3_rentOf (s0 : ST) (k0 : Nat) (a1 : Int32) (Q : Int32 → ST → Prop) : Prop := ∃ n1 : Nat, w_X3_rentOf_L7 k0 a1 (fun (s1 : ST) (x5 : Int32) => Q x5 s1) Q n1 s0 0 0 0
set_option maxRecDepth 100000 in
set_option maxHeartbeats 4000000 in
theorem c_X3_rentOf {l : Launch} (X : XT) (s0 : ST) (k0 : Nat) (a1 : Int32) (Q : Int32 → ST → Prop) (hk0 : okc 3 k0) (h : w_X3_rentOf s0 k0 a1 Q) : MetI l yX3_rentOf (wS yX3_rentOf cX3_rentOf 6 (some .int)) rm_X3_rentOf X s0 [.ref (xa X k0), .int a1] Q := by
  refine metG (own := RX3) (k := 4) (lv0 := [some (.ref (xa X k0)), some (.int a1), none, none, none, none]) (by decide) rfl rfl rfl ?_
  intro p e s m args below meth c E hr
  refine r_iconst (pc := 0) (v := 0) E dX3_rentOf_0 (by decide) ?_
  refine r_istore_n (pc := 1) (lv' := [some (.ref (xa X k0)), some (.int a1), some (.int 0), none, none, none]) E dX3_rentOf_1 rfl rfl rfl rfl ?_
  refine r_iconst (pc := 2) (v := 0) E dX3_rentOf_2 (by decide) ?_
  refine r_istore_n (pc := 3) (lv' := [some (.ref (xa X k0)), some (.int a1), some (.int 0), some (.int 0), none, none]) E dX3_rentOf_3 rfl rfl rfl rfl ?_
  refine r_iconst (pc := 4) (v := 0) E dX3_rentOf_4 (by decide) ?_
  refine r_istore (pc := 5) (lv' := [some (.ref (xa X k0)), some (.int a1), some (.int 0), some (.int 0), some (.int 0), none]) E dX3_rentOf_5 rfl rfl rfl ?_
  obtain ⟨n1, h⟩ := h
  refine r_forget (le_s (le_s (le_s (le_s (le_s (le_n le_0)))))) (t_X3_rentOf_L7 E hr hk0 ?_ n1 _ _ _ _ h)
  intro s1 x5 h
  refine r_iload_n (pc := 65) E dX3_rentOf_65 rfl rfl ?_
  exact r_iret (pc := 66) E hr dX3_rentOf_66 h

/-! ChairFront.rent -/
def rm_X8_rent : Room := { frames := 2, cells := 0, slots := 0, locals := 46 }
theorem ci_X8_rent : CI yX8_rent RX8 cX8_rent 2 (some .int) 1 := ⟨q_631, q_632, q_55, q_633, by decide +kernel⟩
def w_X8_rent (s0 : ST) (a1 : Int32) (Q : Int32 → ST → Prop) : Prop := ((¬ a1 = (-1000000) → (w_X8_within s0 a1 0 1000000 (fun r1 s1 => ((¬ r1 = 0 → ((s1 0 11).toNatClampNeg < 2 ∧ (∀ k1 : Nat, k1 = 7 + (s1 0 11).toNatClampNeg → (w_X3_rentOf s1 k1 a1 (fun r2 s2 => Q r2 s2))))) ∧ (r1 = 0 → (Q (-1000001) s1)))))) ∧ (a1 = (-1000000) → ((s0 0 11).toNatClampNeg < 2 ∧ (∀ k2 : Nat, k2 = 7 + (s0 0 11).toNatClampNeg → (w_X3_rentOf s0 k2 (if (0 : Int32) < ((s0 2 3) - (s0 2 4)) then ((s0 2 3) - (s0 2 4)) else 0) (fun r3 s3 => Q r3 s3))))))
set_option maxRecDepth 100000 in
set_option maxHeartbeats 4000000 in
theorem c_X8_rent {l : Launch} (X : XT) (s0 : ST) (a1 : Int32) (Q : Int32 → ST → Prop) (h : w_X8_rent s0 a1 Q) : MetI l yX8_rent (wS yX8_rent cX8_rent 2 (some .int)) rm_X8_rent X s0 [.ref (xa X 0), .int a1] Q := by
  refine metG (own := RX8) (k := 0) (lv0 := [some (.ref (xa X 0)), some (.int a1)]) (by decide) rfl rfl rfl ?_
  intro p e s m args below meth c E hr
  refine r_iload_n (pc := 0) E dX8_rent_0 rfl rfl ?_
  refine r_ldc (pc := 1) (v := (-1000000)) E q_369 dX8_rent_1 ?_
  refine r_icmp_ne (pc := 3) (tgt := 33) E dX8_rent_3 (by decide) (fun c1 => ?_) (fun c1 => ?_)
  · have h := h.1 c1
    refine r_iload_n (pc := 33) E dX8_rent_33 rfl rfl ?_
    refine r_iconst (pc := 34) (v := 0) E dX8_rent_34 (by decide) ?_
    refine r_ldc (pc := 35) (v := 1000000) E q_640 dX8_rent_35 ?_
    refine afterI (pc := 37) E (fun H locs ls hP hS hl => runS (As := [.int a1, .int 0, .int 1000000]) (rest := []) E (c_X8_within X _ _ _ _ _  h) cs_X8_within q_356 rfl rfl rfl rfl dX8_rent_37 hP hS hl) (fun r1 s1 h => ?_)
    refine r_if_ne (pc := 40) (tgt := 46) E dX8_rent_40 (by decide) (fun c2 => ?_) (fun c2 => ?_)
    · have h := h.1 c2
      refine r_aload_n (pc := 46) E dX8_rent_46 rfl rfl ?_
      refine r_getR (pc := 47) (j := 11) E (by decide) kc_8 q_314 h.1 dX8_rent_47 (fun k1 ek1 ok1 => ?_)
      have h := h.2 k1 ek1
      refine r_iload_n (pc := 50) E dX8_rent_50 rfl rfl ?_
      refine afterI (pc := 51) E (fun H locs ls hP hS hl => runV (As := [.int a1]) (rest := []) E (c_X3_rentOf X _ _ _ _ ok1 h) ok1 kc_3.1 ci_X3_rentOf q_634 rfl rfl rfl rfl dX8_rent_51 hP hS hl) (fun r2 s2 h => ?_)
      exact r_iret (pc := 54) E hr dX8_rent_54 h
    · have h := h.2 c2
      refine r_ldc (pc := 43) (v := (-1000001)) E q_359 dX8_rent_43 ?_
      exact r_iret (pc := 45) E hr dX8_rent_45 h
  · have h := h.2 c1
    refine r_aload_n (pc := 6) E dX8_rent_6 rfl rfl ?_
    refine r_getR (pc := 7) (j := 11) E (by decide) kc_8 q_314 h.1 dX8_rent_7 (fun k2 ek2 ok2 => ?_)
    have h := h.2 k2 ek2
    refine r_iconst (pc := 10) (v := 0) E dX8_rent_10 (by decide) ?_
    refine r_aload_n (pc := 11) E dX8_rent_11 rfl rfl ?_
    refine r_get (pc := 12) (j := 9) (v := .ref (xa X 2)) E ok_0 kc_8 rfl q_312 rfl dX8_rent_12 ?_
    refine r_get (pc := 15) (j := 3) E ok_2 kc_7 rfl q_125 (svI rfl) dX8_rent_15 ?_
    refine r_aload_n (pc := 18) E dX8_rent_18 rfl rfl ?_
    refine r_get (pc := 19) (j := 9) (v := .ref (xa X 2)) E ok_0 kc_8 rfl q_312 rfl dX8_rent_19 ?_
    refine r_get (pc := 22) (j := 4) E ok_2 kc_7 rfl q_126 (svI rfl) dX8_rent_22 ?_
    refine r_isub (pc := 25) E dX8_rent_25 ?_
    refine r_mmax (pc := 26) E ql_max_66_265 qs_max q_63 q_max rfl rfl rfl dX8_rent_26 ?_
    refine afterI (pc := 29) E (fun H locs ls hP hS hl => runV (As := [.int (if (0 : Int32) < ((s0 2 3) - (s0 2 4)) then ((s0 2 3) - (s0 2 4)) else 0)]) (rest := []) E (c_X3_rentOf X _ _ _ _ ok2 h) ok2 kc_3.1 ci_X3_rentOf q_634 rfl rfl rfl rfl dX8_rent_29 hP hS hl) (fun r3 s3 h => ?_)
    exact r_iret (pc := 32) E hr dX8_rent_32 h

/-! ChairFront.unpaid -/
def rm_X8_unpaid : Room := { frames := 2, cells := 0, slots := 0, locals := 43 }
theorem ci_X8_unpaid : CI yX8_unpaid RX8 cX8_unpaid 4 (some .int) 3 := ⟨q_642, q_643, q_55, q_644, by decide +kernel⟩
def w_X8_unpaid (s0 : ST) (a1 : Int32) (a2 : Int32) (a3 : Int32) (Q : Int32 → ST → Prop) : Prop := w_X8_isStretch s0 a1 (fun r1 s1 => ((r1 = 0 → (Q (-1000001) s1)) ∧ (¬ (r1 = 0) → (w_X8_within s1 a2 0 500 (fun r2 s2 => ((r2 = 0 → (Q (-1000001) s2)) ∧ (¬ (r2 = 0) → (w_X8_within s2 a3 0 500 (fun r3 s3 => ((¬ r3 = 0 → (vp_in a1 10 ∧ (∀ k1 : Nat, k1 = 23 + a1.toNatClampNeg → (∀ s4 : ST, s4 = up s3 k1 5 a2 → (vp_in a1 10 ∧ (∀ k2 : Nat, k2 = 23 + a1.toNatClampNeg → (∀ s5 : ST, s5 = up s4 k2 6 a3 → (Q 1 s5)))))))) ∧ (r3 = 0 → (Q (-1000001) s3))))))))))))
set_option maxRecDepth 100000 in
set_option maxHeartbeats 4000000 in
theorem c_X8_unpaid {l : Launch} (X : XT) (s0 : ST) (a1 : Int32) (a2 : Int32) (a3 : Int32) (Q : Int32 → ST → Prop) (h : w_X8_unpaid s0 a1 a2 a3 Q) : MetI l yX8_unpaid (wS yX8_unpaid cX8_unpaid 4 (some .int)) rm_X8_unpaid X s0 [.ref (xa X 0), .int a1, .int a2, .int a3] Q := by
  refine metG (own := RX8) (k := 0) (lv0 := [some (.ref (xa X 0)), some (.int a1), some (.int a2), some (.int a3)]) (by decide) rfl rfl rfl ?_
  intro p e s m args below meth c E hr
  refine r_aload_n (pc := 0) E dX8_unpaid_0 rfl rfl ?_
  refine r_iload_n (pc := 1) E dX8_unpaid_1 rfl rfl ?_
  refine afterI (pc := 2) E (fun H locs ls hP hS hl => runV (As := [.int a1]) (rest := []) E (c_X8_isStretch X _ _ _  h) ok_0 kc_8.1 ci_X8_isStretch q_370 rfl rfl rfl rfl dX8_unpaid_2 hP hS hl) (fun r1 s1 h => ?_)
  refine r_if_eq (pc := 5) (tgt := 30) E dX8_unpaid_5 (by decide) (fun c1 => ?_) (fun c1 => ?_)
  · have h := h.1 c1
    refine r_ldc (pc := 30) (v := (-1000001)) E q_359 dX8_unpaid_30 ?_
    exact r_iret (pc := 32) E hr dX8_unpaid_32 h
  · have h := h.2 c1
    refine r_iload_n (pc := 8) E dX8_unpaid_8 rfl rfl ?_
    refine r_iconst (pc := 9) (v := 0) E dX8_unpaid_9 (by decide) ?_
    refine r_sipush (pc := 10) (v := 500) E dX8_unpaid_10 (by decide) ?_
    refine afterI (pc := 13) E (fun H locs ls hP hS hl => runS (As := [.int a2, .int 0, .int 500]) (rest := []) E (c_X8_within X _ _ _ _ _  h) cs_X8_within q_356 rfl rfl rfl rfl dX8_unpaid_13 hP hS hl) (fun r2 s2 h => ?_)
    refine r_if_eq (pc := 16) (tgt := 30) E dX8_unpaid_16 (by decide) (fun c2 => ?_) (fun c2 => ?_)
    · have h := h.1 c2
      refine r_ldc (pc := 30) (v := (-1000001)) E q_359 dX8_unpaid_30 ?_
      exact r_iret (pc := 32) E hr dX8_unpaid_32 h
    · have h := h.2 c2
      refine r_iload_n (pc := 19) E dX8_unpaid_19 rfl rfl ?_
      refine r_iconst (pc := 20) (v := 0) E dX8_unpaid_20 (by decide) ?_
      refine r_sipush (pc := 21) (v := 500) E dX8_unpaid_21 (by decide) ?_
      refine afterI (pc := 24) E (fun H locs ls hP hS hl => runS (As := [.int a3, .int 0, .int 500]) (rest := []) E (c_X8_within X _ _ _ _ _  h) cs_X8_within q_356 rfl rfl rfl rfl dX8_unpaid_24 hP hS hl) (fun r3 s3 h => ?_)
      refine r_if_ne (pc := 27) (tgt := 33) E dX8_unpaid_27 (by decide) (fun c3 => ?_) (fun c3 => ?_)
      · have h := h.1 c3
        refine r_aload_n (pc := 33) E dX8_unpaid_33 rfl rfl ?_
        refine r_get (pc := 34) (j := 8) (v := .ref (xa X 1)) E ok_0 kc_8 rfl q_311 rfl dX8_unpaid_34 ?_
        refine r_iload_n (pc := 37) E dX8_unpaid_37 rfl rfl ?_
        refine r_aldSn (pc := 38) E h.1 dX8_unpaid_38 (fun k1 ek1 ok1 => ?_)
        have h := h.2 k1 ek1
        refine r_iload_n (pc := 39) E dX8_unpaid_39 rfl rfl ?_
        refine r_put (pc := 40) (j := 5) E ok1 kc_4 rfl q_284 (r0 (.inl ok1) rfl) rfl rfl dX8_unpaid_40 (fun s4 es4 => ?_)
        have h := h s4 es4
        refine r_aload_n (pc := 43) E dX8_unpaid_43 rfl rfl ?_
        refine r_get (pc := 44) (j := 8) (v := .ref (xa X 1)) E ok_0 kc_8 rfl q_311 rfl dX8_unpaid_44 ?_
        refine r_iload_n (pc := 47) E dX8_unpaid_47 rfl rfl ?_
        refine r_aldSn (pc := 48) E h.1 dX8_unpaid_48 (fun k2 ek2 ok2 => ?_)
        have h := h.2 k2 ek2
        refine r_iload_n (pc := 49) E dX8_unpaid_49 rfl rfl ?_
        refine r_put (pc := 50) (j := 6) E ok2 kc_4 rfl q_287 (r0 (.inl ok2) rfl) rfl rfl dX8_unpaid_50 (fun s5 es5 => ?_)
        have h := h s5 es5
        refine r_iconst (pc := 53) (v := 1) E dX8_unpaid_53 (by decide) ?_
        exact r_iret (pc := 54) E hr dX8_unpaid_54 h
      · have h := h.2 c3
        refine r_ldc (pc := 30) (v := (-1000001)) E q_359 dX8_unpaid_30 ?_
        exact r_iret (pc := 32) E hr dX8_unpaid_32 h

/-! java/lang/Integer.bitCount -/
def rm_J6_bitCount_0f7a4 : Room := { frames := 0, cells := 0, slots := 0, locals := 0 }
theorem cs_J6_bitCount_0f7a4 : CS yJ6_bitCount_0f7a4 cJ6_bitCount_0f7a4 1 (some .int) 1 := ⟨q_650, q_70, q_651, by decide +kernel⟩
def w_J6_bitCount_0f7a4 (s0 : ST) (a0 : Int32) (Q : Int32 → ST → Prop) : Prop := ∀ x1 : Int32, x1 = (a0 - (((a0 : Int32).toUInt32 >>> ((1 : Int32).toUInt32 &&& Int32.toUInt32 31)).toInt32 &&& 1431655765)) → (∀ x2 : Int32, x2 = ((x1 &&& 858993459) + (((x1 : Int32).toUInt32 >>> ((2 : Int32).toUInt32 &&& Int32.toUInt32 31)).toInt32 &&& 858993459)) → (∀ x3 : Int32, x3 = ((x2 + ((x2 : Int32).toUInt32 >>> ((4 : Int32).toUInt32 &&& Int32.toUInt32 31)).toInt32) &&& 252645135) → (∀ x4 : Int32, x4 = (x3 + ((x3 : Int32).toUInt32 >>> ((8 : Int32).toUInt32 &&& Int32.toUInt32 31)).toInt32) → (∀ x5 : Int32, x5 = (x4 + ((x4 : Int32).toUInt32 >>> ((16 : Int32).toUInt32 &&& Int32.toUInt32 31)).toInt32) → (Q (x5 &&& 63) s0)))))
set_option maxRecDepth 100000 in
set_option maxHeartbeats 4000000 in
theorem c_J6_bitCount_0f7a4 {l : Launch} (X : XT) (s0 : ST) (a0 : Int32) (Q : Int32 → ST → Prop) (h : w_J6_bitCount_0f7a4 s0 a0 Q) : MetI l yJ6_bitCount_0f7a4 (wS yJ6_bitCount_0f7a4 cJ6_bitCount_0f7a4 1 (some .int)) rm_J6_bitCount_0f7a4 X s0 [.int a0] Q := by
  refine metG (own := RJ6) (k := 0) (lv0 := [some (.int a0)]) (by decide) rfl rfl rfl ?_
  intro p e s m args below meth c E hr
  refine r_iload_n (pc := 0) E dJ6_bitCount_0f7a4_0 rfl rfl ?_
  refine r_iload_n (pc := 1) E dJ6_bitCount_0f7a4_1 rfl rfl ?_
  refine r_iconst (pc := 2) (v := 1) E dJ6_bitCount_0f7a4_2 (by decide) ?_
  refine r_iushr (pc := 3) E dJ6_bitCount_0f7a4_3 ?_
  refine r_ldcw (pc := 4) (v := 1431655765) E q_652 dJ6_bitCount_0f7a4_4 ?_
  refine r_iand (pc := 7) E dJ6_bitCount_0f7a4_7 ?_
  refine r_isub (pc := 8) E dJ6_bitCount_0f7a4_8 ?_
  refine r_topi (fun x1 ex1 => ?_)
  have h := h x1 ex1
  refine r_istore_n (pc := 9) (lv' := [some (.int x1)]) E dJ6_bitCount_0f7a4_9 rfl rfl rfl rfl ?_
  refine r_iload_n (pc := 10) E dJ6_bitCount_0f7a4_10 rfl rfl ?_
  refine r_ldcw (pc := 11) (v := 858993459) E q_653 dJ6_bitCount_0f7a4_11 ?_
  refine r_iand (pc := 14) E dJ6_bitCount_0f7a4_14 ?_
  refine r_iload_n (pc := 15) E dJ6_bitCount_0f7a4_15 rfl rfl ?_
  refine r_iconst (pc := 16) (v := 2) E dJ6_bitCount_0f7a4_16 (by decide) ?_
  refine r_iushr (pc := 17) E dJ6_bitCount_0f7a4_17 ?_
  refine r_ldcw (pc := 18) (v := 858993459) E q_653 dJ6_bitCount_0f7a4_18 ?_
  refine r_iand (pc := 21) E dJ6_bitCount_0f7a4_21 ?_
  refine r_iadd (pc := 22) E dJ6_bitCount_0f7a4_22 ?_
  refine r_topi (fun x2 ex2 => ?_)
  have h := h x2 ex2
  refine r_istore_n (pc := 23) (lv' := [some (.int x2)]) E dJ6_bitCount_0f7a4_23 rfl rfl rfl rfl ?_
  refine r_iload_n (pc := 24) E dJ6_bitCount_0f7a4_24 rfl rfl ?_
  refine r_iload_n (pc := 25) E dJ6_bitCount_0f7a4_25 rfl rfl ?_
  refine r_iconst (pc := 26) (v := 4) E dJ6_bitCount_0f7a4_26 (by decide) ?_
  refine r_iushr (pc := 27) E dJ6_bitCount_0f7a4_27 ?_
  refine r_iadd (pc := 28) E dJ6_bitCount_0f7a4_28 ?_
  refine r_ldcw (pc := 29) (v := 252645135) E q_654 dJ6_bitCount_0f7a4_29 ?_
  refine r_iand (pc := 32) E dJ6_bitCount_0f7a4_32 ?_
  refine r_topi (fun x3 ex3 => ?_)
  have h := h x3 ex3
  refine r_istore_n (pc := 33) (lv' := [some (.int x3)]) E dJ6_bitCount_0f7a4_33 rfl rfl rfl rfl ?_
  refine r_iload_n (pc := 34) E dJ6_bitCount_0f7a4_34 rfl rfl ?_
  refine r_iload_n (pc := 35) E dJ6_bitCount_0f7a4_35 rfl rfl ?_
  refine r_bipush (pc := 36) (v := 8) E dJ6_bitCount_0f7a4_36 (by decide) ?_
  refine r_iushr (pc := 38) E dJ6_bitCount_0f7a4_38 ?_
  refine r_iadd (pc := 39) E dJ6_bitCount_0f7a4_39 ?_
  refine r_topi (fun x4 ex4 => ?_)
  have h := h x4 ex4
  refine r_istore_n (pc := 40) (lv' := [some (.int x4)]) E dJ6_bitCount_0f7a4_40 rfl rfl rfl rfl ?_
  refine r_iload_n (pc := 41) E dJ6_bitCount_0f7a4_41 rfl rfl ?_
  refine r_iload_n (pc := 42) E dJ6_bitCount_0f7a4_42 rfl rfl ?_
  refine r_bipush (pc := 43) (v := 16) E dJ6_bitCount_0f7a4_43 (by decide) ?_
  refine r_iushr (pc := 45) E dJ6_bitCount_0f7a4_45 ?_
  refine r_iadd (pc := 46) E dJ6_bitCount_0f7a4_46 ?_
  refine r_topi (fun x5 ex5 => ?_)
  have h := h x5 ex5
  refine r_istore_n (pc := 47) (lv' := [some (.int x5)]) E dJ6_bitCount_0f7a4_47 rfl rfl rfl rfl ?_
  refine r_iload_n (pc := 48) E dJ6_bitCount_0f7a4_48 rfl rfl ?_
  refine r_bipush (pc := 49) (v := 63) E dJ6_bitCount_0f7a4_49 (by decide) ?_
  refine r_iand (pc := 51) E dJ6_bitCount_0f7a4_51 ?_
  exact r_iret (pc := 52) E hr dJ6_bitCount_0f7a4_52 h

/-! ChairFront$Stretch.foundAt -/
def rm_X4_foundAt : Room := { frames := 1, cells := 0, slots := 0, locals := 21 }
theorem ci_X4_foundAt : CI yX4_foundAt RX4 cX4_foundAt 2 (some .int) 1 := ⟨q_664, q_665, q_64, q_666, by decide +kernel⟩
def w_X4_foundAt (s0 : ST) (k0 : Nat) (a1 : Int32) (Q : Int32 → ST → Prop) : Prop := Q (if (0 : Int32) < ((s0 k0 5) - (a1 * (s0 k0 6))) then ((s0 k0 5) - (a1 * (s0 k0 6))) else 0) s0
set_option maxRecDepth 100000 in
set_option maxHeartbeats 4000000 in
theorem c_X4_foundAt {l : Launch} (X : XT) (s0 : ST) (k0 : Nat) (a1 : Int32) (Q : Int32 → ST → Prop) (hk0 : okc 4 k0) (h : w_X4_foundAt s0 k0 a1 Q) : MetI l yX4_foundAt (wS yX4_foundAt cX4_foundAt 2 (some .int)) rm_X4_foundAt X s0 [.ref (xa X k0), .int a1] Q := by
  refine metG (own := RX4) (k := 0) (lv0 := [some (.ref (xa X k0)), some (.int a1)]) (by decide) rfl rfl rfl ?_
  intro p e s m args below meth c E hr
  refine r_iconst (pc := 0) (v := 0) E dX4_foundAt_0 (by decide) ?_
  refine r_aload_n (pc := 1) E dX4_foundAt_1 rfl rfl ?_
  refine r_get (pc := 2) (j := 5) E hk0 kc_4 rfl q_283 (svI (r0 (.inl hk0) rfl)) dX4_foundAt_2 ?_
  refine r_iload_n (pc := 5) E dX4_foundAt_5 rfl rfl ?_
  refine r_aload_n (pc := 6) E dX4_foundAt_6 rfl rfl ?_
  refine r_get (pc := 7) (j := 6) E hk0 kc_4 rfl q_286 (svI (r0 (.inl hk0) rfl)) dX4_foundAt_7 ?_
  refine r_imul (pc := 10) E dX4_foundAt_10 ?_
  refine r_isub (pc := 11) E dX4_foundAt_11 ?_
  refine r_mmax (pc := 12) E ql_max_29_667 qs_max q_63 q_max rfl rfl rfl dX4_foundAt_12 ?_
  exact r_iret (pc := 15) E hr dX4_foundAt_15 h

/-! ChairFront$BestWalk.addStop -/
def rm_X1_addStop : Room := { frames := 2, cells := 0, slots := 0, locals := 42 }
theorem ci_X1_addStop : CI yX1_addStop RX1 cX1_addStop 4 none 2 := ⟨q_661, q_23, q_61, q_662, by decide +kernel⟩
def w_X1_addStop_L12 (v2 : Nat) (K : ST → Prop) (Q : ST → Prop) : Nat → ST → Int32 → Prop
  | 0, _, _ => False
  | n + 1, s0, v3 => (((7 : Int32) ≤ v3 → (K s0)) ∧ (¬ ((7 : Int32) ≤ v3) → (w_X4_foundAt s0 v2 v3 (fun r1 s2 => vp_in (((s0 17 3) * 7) + v3) 49 ∧ (∀ s3 : ST, s3 = up s2 19 (((s0 17 3) * 7) + v3).toNatClampNeg r1 → (∀ x1 : Int32, x1 = v3 + 1 → (w_X1_addStop_L12 v2 K Q n s3 x1)))))))
set_option maxRecDepth 100000 in
set_option maxHeartbeats 4000000 in
theorem t_X1_addStop_L12 {p : Program} {l : Launch} {e : Env} {s : State} {m : MethodId} {args : Array Value} {below : List Frame} {meth : Method} {c : Code} {X : XT} (E : Ev p rm_X1_addStop s m args meth c X (xA X) 4 0 0 cX1_addStop RX1) (hr : meth.sig.returnType = none) {v2 : Nat} {K : ST → Prop} {Q : ST → Prop} (ho2 : okc 4 v2) (hK : ∀ (s0 : ST), K s0 → G p l e rm_X1_addStop s m args below meth c X (xA X) 4 0 0 (MQ below (va_Qv Q (Bw X) (xA X)) args s 0 0 (xA X)) s0 43 [some (.ref (xa X 17)), none, none, none] []) : ∀ (n : Nat) (s0 : ST) (v3 : Int32), w_X1_addStop_L12 v2 K Q n s0 v3 → G p l e rm_X1_addStop s m args below meth c X (xA X) 4 0 0 (MQ below (va_Qv Q (Bw X) (xA X)) args s 0 0 (xA X)) s0 12 [some (.ref (xa X 17)), none, some (.ref (xa X v2)), some (.int v3)] [] := by
  intro n
  induction n with
  | zero => intro s0 v3 h; exact h.elim
  | succ n ih =>
    intro s0 v3 h
    refine r_iload_n (pc := 12) E dX1_addStop_12 rfl rfl ?_
    refine r_bipush (pc := 13) (v := 7) E dX1_addStop_13 (by decide) ?_
    refine r_icmp_ge (pc := 15) (tgt := 43) E dX1_addStop_15 (by decide) (fun c1 => ?_) (fun c1 => ?_)
    · have h := h.1 c1
      exact r_forget (le_s (le_n (le_n (le_n le_0)))) (hK _  h)
    · have h := h.2 c1
      refine r_aload_n (pc := 18) E dX1_addStop_18 rfl rfl ?_
      refine r_get (pc := 19) (j := 1) (v := .ref (xa X 19)) E ok_17 kc_1 rfl q_235 rfl dX1_addStop_19 ?_
      refine r_aload_n (pc := 22) E dX1_addStop_22 rfl rfl ?_
      refine r_get (pc := 23) (j := 3) E ok_17 kc_1 rfl q_237 (svI rfl) dX1_addStop_23 ?_
      refine r_bipush (pc := 26) (v := 7) E dX1_addStop_26 (by decide) ?_
      refine r_imul (pc := 28) E dX1_addStop_28 ?_
      refine r_iload_n (pc := 29) E dX1_addStop_29 rfl rfl ?_
      refine r_iadd (pc := 30) E dX1_addStop_30 ?_
      refine r_aload_n (pc := 31) E dX1_addStop_31 rfl rfl ?_
      refine r_iload_n (pc := 32) E dX1_addStop_32 rfl rfl ?_
      refine afterI (pc := 33) E (fun H locs ls hP hS hl => runV (As := [.int v3]) (rest := [.int (((s0 17 3) * 7) + v3), .ref (xa X 19)]) E (c_X4_foundAt X _ _ _ _ ho2 h) ho2 kc_4.1 ci_X4_foundAt q_663 rfl rfl rfl rfl dX1_addStop_33 hP hS hl) (fun r1 s2 h => ?_)
      refine r_iast (pc := 36) (n := 49) E ok_19 rfl h.1 dX1_addStop_36 (fun s3 es3 => ?_)
      have h := h.2 s3 es3
      obtain ⟨x1, ex1⟩ : ∃ z : Int32, z = v3 + 1 := ⟨_, rfl⟩
      have h := h x1 ex1
      refine r_iinc (pc := 37) (v := 1) (lv' := [some (.ref (xa X 17)), none, some (.ref (xa X v2)), some (.int x1)]) E dX1_addStop_37 rfl (by decide) rfl rfl (by rw [ex1]; rfl) ?_
      refine r_goto (pc := 40) (tgt := 12) E dX1_addStop_40 (by decide) ?_
      exact r_forget (le_s (le_n (le_s (le_s le_0)))) (ih _ _ h)

def w_X1_addStop (s0 : ST) (a1 : Int32) (a2 : Nat) (Q : ST → Prop) : Prop := vp_in (s0 17 3) 7 ∧ (∀ s1 : ST, s1 = up s0 18 (s0 17 3).toNatClampNeg a1 → (∃ n1 : Nat, w_X1_addStop_L12 a2 (fun (s4 : ST) => ∀ s5 : ST, s5 = up s4 17 3 ((s4 17 3) + 1) → (Q s5)) Q n1 s1 0))
set_option maxRecDepth 100000 in
set_option maxHeartbeats 4000000 in
theorem c_X1_addStop {l : Launch} (X : XT) (s0 : ST) (a1 : Int32) (a2 : Nat) (Q : ST → Prop) (ha2 : okc 4 a2) (h : w_X1_addStop s0 a1 a2 Q) : MetV l yX1_addStop (wS yX1_addStop cX1_addStop 4 none) rm_X1_addStop X s0 [.ref (xa X 17), .int a1, .ref (xa X a2)] Q := by
  refine metG (own := RX1) (k := 1) (lv0 := [some (.ref (xa X 17)), some (.int a1), some (.ref (xa X a2)), none]) (by decide) rfl rfl rfl ?_
  intro p e s m args below meth c E hr
  refine r_aload_n (pc := 0) E dX1_addStop_0 rfl rfl ?_
  refine r_get (pc := 1) (j := 0) (v := .ref (xa X 18)) E ok_17 kc_1 rfl q_234 rfl dX1_addStop_1 ?_
  refine r_aload_n (pc := 4) E dX1_addStop_4 rfl rfl ?_
  refine r_get (pc := 5) (j := 3) E ok_17 kc_1 rfl q_237 (svI rfl) dX1_addStop_5 ?_
  refine r_iload_n (pc := 8) E dX1_addStop_8 rfl rfl ?_
  refine r_iast (pc := 9) (n := 7) E ok_18 rfl h.1 dX1_addStop_9 (fun s1 es1 => ?_)
  have h := h.2 s1 es1
  refine r_iconst (pc := 10) (v := 0) E dX1_addStop_10 (by decide) ?_
  refine r_istore_n (pc := 11) (lv' := [some (.ref (xa X 17)), some (.int a1), some (.ref (xa X a2)), some (.int 0)]) E dX1_addStop_11 rfl rfl rfl rfl ?_
  obtain ⟨n1, h⟩ := h
  refine r_forget (le_s (le_n (le_s (le_s le_0)))) (t_X1_addStop_L12 E hr ha2 ?_ n1 _ _ h)
  intro s4 h
  refine r_aload_n (pc := 43) E dX1_addStop_43 rfl rfl ?_
  refine r_dup (pc := 44) E dX1_addStop_44 rfl ?_
  refine r_get (pc := 45) (j := 3) E ok_17 kc_1 rfl q_237 (svI rfl) dX1_addStop_45 ?_
  refine r_iconst (pc := 48) (v := 1) E dX1_addStop_48 (by decide) ?_
  refine r_iadd (pc := 49) E dX1_addStop_49 ?_
  refine r_put (pc := 50) (j := 3) E ok_17 kc_1 rfl q_237 rfl rfl rfl dX1_addStop_50 (fun s5 es5 => ?_)
  have h := h s5 es5
  exact r_vret (pc := 53) E hr dX1_addStop_53 h

/-! ChairFront$BestWalk.allStops -/
def rm_X1_allStops : Room := { frames := 0, cells := 0, slots := 0, locals := 0 }
theorem ci_X1_allStops : CI yX1_allStops RX1 cX1_allStops 1 (some .int) 0 := ⟨q_670, q_24, q_61, q_671, by decide +kernel⟩
def w_X1_allStops (s0 : ST) (Q : Int32 → ST → Prop) : Prop := Q ((1 <<< ((s0 17 3) &&& 31)) - 1) s0
set_option maxRecDepth 100000 in
set_option maxHeartbeats 4000000 in
theorem c_X1_allStops {l : Launch} (X : XT) (s0 : ST) (Q : Int32 → ST → Prop) (h : w_X1_allStops s0 Q) : MetI l yX1_allStops (wS yX1_allStops cX1_allStops 1 (some .int)) rm_X1_allStops X s0 [.ref (xa X 17)] Q := by
  refine metG (own := RX1) (k := 0) (lv0 := [some (.ref (xa X 17))]) (by decide) rfl rfl rfl ?_
  intro p e s m args below meth c E hr
  refine r_iconst (pc := 0) (v := 1) E dX1_allStops_0 (by decide) ?_
  refine r_aload_n (pc := 1) E dX1_allStops_1 rfl rfl ?_
  refine r_get (pc := 2) (j := 3) E ok_17 kc_1 rfl q_237 (svI rfl) dX1_allStops_2 ?_
  refine r_ishl (pc := 5) E dX1_allStops_5 ?_
  refine r_iconst (pc := 6) (v := 1) E dX1_allStops_6 (by decide) ?_
  refine r_isub (pc := 7) E dX1_allStops_7 ?_
  exact r_iret (pc := 8) E hr dX1_allStops_8 h

/-! ChairFront$BestWalk.findsBy -/
def rm_X1_findsBy : Room := { frames := 1, cells := 0, slots := 0, locals := 20 }
theorem ci_X1_findsBy : CI yX1_findsBy RX1 cX1_findsBy 4 (some .int) 2 := ⟨q_678, q_26, q_61, q_679, by decide +kernel⟩
def w_X1_findsBy (s0 : ST) (a1 : Int32) (a2 : Int32) (Q : Int32 → ST → Prop) : Prop := w_J6_bitCount_0f7a4 s0 a2 (fun r1 s1 => ∀ x1 : Int32, x1 = ((s0 17 3) - r1) → (vp_in ((a1 * 7) + x1) 49 ∧ (vp_in (a2 &&& ((1 <<< (a1 &&& 31)) ^^^ (-1))) 128 ∧ (Q ((s1 19 ((a1 * 7) + x1).toNatClampNeg) + (s1 20 (a2 &&& ((1 <<< (a1 &&& 31)) ^^^ (-1))).toNatClampNeg)) s1))))
set_option maxRecDepth 100000 in
set_option maxHeartbeats 4000000 in
theorem c_X1_findsBy {l : Launch} (X : XT) (s0 : ST) (a1 : Int32) (a2 : Int32) (Q : Int32 → ST → Prop) (h : w_X1_findsBy s0 a1 a2 Q) : MetI l yX1_findsBy (wS yX1_findsBy cX1_findsBy 4 (some .int)) rm_X1_findsBy X s0 [.ref (xa X 17), .int a1, .int a2] Q := by
  refine metG (own := RX1) (k := 1) (lv0 := [some (.ref (xa X 17)), some (.int a1), some (.int a2), none]) (by decide) rfl rfl rfl ?_
  intro p e s m args below meth c E hr
  refine r_aload_n (pc := 0) E dX1_findsBy_0 rfl rfl ?_
  refine r_get (pc := 1) (j := 3) E ok_17 kc_1 rfl q_237 (svI rfl) dX1_findsBy_1 ?_
  refine r_iload_n (pc := 4) E dX1_findsBy_4 rfl rfl ?_
  refine afterI (pc := 5) E (fun H locs ls hP hS hl => runS (As := [.int a2]) (rest := [.int (s0 17 3)]) E (c_J6_bitCount_0f7a4 X _ _ _  h) cs_J6_bitCount_0f7a4 q_680 rfl rfl rfl rfl dX1_findsBy_5 hP hS hl) (fun r1 s1 h => ?_)
  refine r_isub (pc := 8) E dX1_findsBy_8 ?_
  refine r_topi (fun x1 ex1 => ?_)
  have h := h x1 ex1
  refine r_istore_n (pc := 9) (lv' := [some (.ref (xa X 17)), some (.int a1), some (.int a2), some (.int x1)]) E dX1_findsBy_9 rfl rfl rfl rfl ?_
  refine r_aload_n (pc := 10) E dX1_findsBy_10 rfl rfl ?_
  refine r_get (pc := 11) (j := 1) (v := .ref (xa X 19)) E ok_17 kc_1 rfl q_235 rfl dX1_findsBy_11 ?_
  refine r_iload_n (pc := 14) E dX1_findsBy_14 rfl rfl ?_
  refine r_bipush (pc := 15) (v := 7) E dX1_findsBy_15 (by decide) ?_
  refine r_imul (pc := 17) E dX1_findsBy_17 ?_
  refine r_iload_n (pc := 18) E dX1_findsBy_18 rfl rfl ?_
  refine r_iadd (pc := 19) E dX1_findsBy_19 ?_
  refine r_iald (pc := 20) (n := 49) E ok_19 rfl h.1 dX1_findsBy_20 ?_
  have h := h.2
  refine r_aload_n (pc := 21) E dX1_findsBy_21 rfl rfl ?_
  refine r_get (pc := 22) (j := 2) (v := .ref (xa X 20)) E ok_17 kc_1 rfl q_236 rfl dX1_findsBy_22 ?_
  refine r_iload_n (pc := 25) E dX1_findsBy_25 rfl rfl ?_
  refine r_iconst (pc := 26) (v := 1) E dX1_findsBy_26 (by decide) ?_
  refine r_iload_n (pc := 27) E dX1_findsBy_27 rfl rfl ?_
  refine r_ishl (pc := 28) E dX1_findsBy_28 ?_
  refine r_iconst (pc := 29) (v := (-1)) E dX1_findsBy_29 (by decide) ?_
  refine r_ixor (pc := 30) E dX1_findsBy_30 ?_
  refine r_iand (pc := 31) E dX1_findsBy_31 ?_
  refine r_iald (pc := 32) (n := 128) E ok_20 rfl h.1 dX1_findsBy_32 ?_
  have h := h.2
  refine r_iadd (pc := 33) E dX1_findsBy_33 ?_
  exact r_iret (pc := 34) E hr dX1_findsBy_34 h

/-! ChairFront$BestWalk.bestNext -/
def rm_X1_bestNext : Room := { frames := 2, cells := 0, slots := 0, locals := 43 }
theorem ci_X1_bestNext : CI yX1_bestNext RX1 cX1_bestNext 5 (some .int) 1 := ⟨q_674, q_25, q_61, q_675, by decide +kernel⟩
def w_X1_bestNext_L7 (v1 : Int32) (K : ST → Int32 → Prop) (Q : Int32 → ST → Prop) : Nat → ST → Int32 → Int32 → Int32 → Prop
  | 0, _, _, _, _ => False
  | n + 1, s0, v2, v3, v4 => (((s0 17 3) ≤ v4 → (K s0 v2)) ∧ (¬ ((s0 17 3) ≤ v4) → (((((v1 >>> (v4 &&& 31)) &&& 1) = 0 → (∀ x1 : Int32, x1 = v4 + 1 → (w_X1_bestNext_L7 v1 K Q n s0 v2 v3 x1))) ∧ (¬ (((v1 >>> (v4 &&& 31)) &&& 1) = 0) → (w_X1_findsBy s0 v4 v1 (fun r1 s1 => ((r1 ≤ v3 → (∀ x2 : Int32, x2 = v4 + 1 → (w_X1_bestNext_L7 v1 K Q n s1 v2 v3 x2))) ∧ (¬ (r1 ≤ v3) → (w_X1_findsBy s1 v4 v1 (fun r2 s2 => ∀ x3 : Int32, x3 = v4 + 1 → (w_X1_bestNext_L7 v1 K Q n s2 v4 r2 x3))))))))))))
set_option maxRecDepth 100000 in
set_option maxHeartbeats 4000000 in
theorem t_X1_bestNext_L7 {p : Program} {l : Launch} {e : Env} {s : State} {m : MethodId} {args : Array Value} {below : List Frame} {meth : Method} {c : Code} {X : XT} (E : Ev p rm_X1_bestNext s m args meth c X (xA X) 5 0 0 cX1_bestNext RX1) (hr : meth.sig.returnType = (some .int)) {v1 : Int32} {K : ST → Int32 → Prop} {Q : Int32 → ST → Prop} (hK : ∀ (s0 : ST) (v2 : Int32), K s0 v2 → G p l e rm_X1_bestNext s m args below meth c X (xA X) 5 0 0 (MQ below (va_Qi Q (Bw X) (xA X)) args s 0 0 (xA X)) s0 53 [none, none, some (.int v2), none, none] []) : ∀ (n : Nat) (s0 : ST) (v2 : Int32) (v3 : Int32) (v4 : Int32), w_X1_bestNext_L7 v1 K Q n s0 v2 v3 v4 → G p l e rm_X1_bestNext s m args below meth c X (xA X) 5 0 0 (MQ below (va_Qi Q (Bw X) (xA X)) args s 0 0 (xA X)) s0 7 [some (.ref (xa X 17)), some (.int v1), some (.int v2), some (.int v3), some (.int v4)] [] := by
  intro n
  induction n with
  | zero => intro s0 v2 v3 v4 h; exact h.elim
  | succ n ih =>
    intro s0 v2 v3 v4 h
    refine r_iload (pc := 7) E dX1_bestNext_7 rfl ?_
    refine r_aload_n (pc := 9) E dX1_bestNext_9 rfl rfl ?_
    refine r_get (pc := 10) (j := 3) E ok_17 kc_1 rfl q_237 (svI rfl) dX1_bestNext_10 ?_
    refine r_icmp_ge (pc := 13) (tgt := 53) E dX1_bestNext_13 (by decide) (fun c1 => ?_) (fun c1 => ?_)
    · have h := h.1 c1
      exact r_forget (le_n (le_n (le_s (le_n (le_n le_0))))) (hK _ _ h)
    · have h := h.2 c1
      refine r_iload_n (pc := 16) E dX1_bestNext_16 rfl rfl ?_
      refine r_iload (pc := 17) E dX1_bestNext_17 rfl ?_
      refine r_ishr (pc := 19) E dX1_bestNext_19 ?_
      refine r_iconst (pc := 20) (v := 1) E dX1_bestNext_20 (by decide) ?_
      refine r_iand (pc := 21) E dX1_bestNext_21 ?_
      refine r_if_eq (pc := 22) (tgt := 47) E dX1_bestNext_22 (by decide) (fun c2 => ?_) (fun c2 => ?_)
      · have h := h.1 c2
        obtain ⟨x1, ex1⟩ : ∃ z : Int32, z = v4 + 1 := ⟨_, rfl⟩
        have h := h x1 ex1
        refine r_iinc (pc := 47) (v := 1) (lv' := [some (.ref (xa X 17)), some (.int v1), some (.int v2), some (.int v3), some (.int x1)]) E dX1_bestNext_47 rfl (by decide) rfl rfl (by rw [ex1]; rfl) ?_
        refine r_goto (pc := 50) (tgt := 7) E dX1_bestNext_50 (by decide) ?_
        exact r_forget (le_s (le_s (le_s (le_s (le_s le_0))))) (ih _ _ _ _ h)
      · have h := h.2 c2
        refine r_aload_n (pc := 25) E dX1_bestNext_25 rfl rfl ?_
        refine r_iload (pc := 26) E dX1_bestNext_26 rfl ?_
        refine r_iload_n (pc := 28) E dX1_bestNext_28 rfl rfl ?_
        refine afterI (pc := 29) E (fun H locs ls hP hS hl => runV (As := [.int v4, .int v1]) (rest := []) E (c_X1_findsBy X _ _ _ _  h) ok_17 kc_1.1 ci_X1_findsBy q_676 rfl rfl rfl rfl dX1_bestNext_29 hP hS hl) (fun r1 s1 h => ?_)
        refine r_iload_n (pc := 32) E dX1_bestNext_32 rfl rfl ?_
        refine r_icmp_le (pc := 33) (tgt := 47) E dX1_bestNext_33 (by decide) (fun c3 => ?_) (fun c3 => ?_)
        · have h := h.1 c3
          obtain ⟨x2, ex2⟩ : ∃ z : Int32, z = v4 + 1 := ⟨_, rfl⟩
          have h := h x2 ex2
          refine r_iinc (pc := 47) (v := 1) (lv' := [some (.ref (xa X 17)), some (.int v1), some (.int v2), some (.int v3), some (.int x2)]) E dX1_bestNext_47 rfl (by decide) rfl rfl (by rw [ex2]; rfl) ?_
          refine r_goto (pc := 50) (tgt := 7) E dX1_bestNext_50 (by decide) ?_
          exact r_forget (le_s (le_s (le_s (le_s (le_s le_0))))) (ih _ _ _ _ h)
        · have h := h.2 c3
          refine r_iload (pc := 36) E dX1_bestNext_36 rfl ?_
          refine r_istore_n (pc := 38) (lv' := [some (.ref (xa X 17)), some (.int v1), some (.int v4), some (.int v3), some (.int v4)]) E dX1_bestNext_38 rfl rfl rfl rfl ?_
          refine r_aload_n (pc := 39) E dX1_bestNext_39 rfl rfl ?_
          refine r_iload (pc := 40) E dX1_bestNext_40 rfl ?_
          refine r_iload_n (pc := 42) E dX1_bestNext_42 rfl rfl ?_
          refine afterI (pc := 43) E (fun H locs ls hP hS hl => runV (As := [.int v4, .int v1]) (rest := []) E (c_X1_findsBy X _ _ _ _  h) ok_17 kc_1.1 ci_X1_findsBy q_676 rfl rfl rfl rfl dX1_bestNext_43 hP hS hl) (fun r2 s2 h => ?_)
          refine r_istore_n (pc := 46) (lv' := [some (.ref (xa X 17)), some (.int v1), some (.int v4), some (.int r2), some (.int v4)]) E dX1_bestNext_46 rfl rfl rfl rfl ?_
          obtain ⟨x3, ex3⟩ : ∃ z : Int32, z = v4 + 1 := ⟨_, rfl⟩
          have h := h x3 ex3
          refine r_iinc (pc := 47) (v := 1) (lv' := [some (.ref (xa X 17)), some (.int v1), some (.int v4), some (.int r2), some (.int x3)]) E dX1_bestNext_47 rfl (by decide) rfl rfl (by rw [ex3]; rfl) ?_
          refine r_goto (pc := 50) (tgt := 7) E dX1_bestNext_50 (by decide) ?_
          exact r_forget (le_s (le_s (le_s (le_s (le_s le_0))))) (ih _ _ _ _ h)

def w_X1_bestNext (s0 : ST) (a1 : Int32) (Q : Int32 → ST → Prop) : Prop := ∃ n1 : Nat, w_X1_bestNext_L7 a1 (fun (s3 : ST) (x4 : Int32) => Q x4 s3) Q n1 s0 0 (-1) 0
set_option maxRecDepth 100000 in
set_option maxHeartbeats 4000000 in
theorem c_X1_bestNext {l : Launch} (X : XT) (s0 : ST) (a1 : Int32) (Q : Int32 → ST → Prop) (h : w_X1_bestNext s0 a1 Q) : MetI l yX1_bestNext (wS yX1_bestNext cX1_bestNext 5 (some .int)) rm_X1_bestNext X s0 [.ref (xa X 17), .int a1] Q := by
  refine metG (own := RX1) (k := 3) (lv0 := [some (.ref (xa X 17)), some (.int a1), none, none, none]) (by decide) rfl rfl rfl ?_
  intro p e s m args below meth c E hr
  refine r_iconst (pc := 0) (v := 0) E dX1_bestNext_0 (by decide) ?_
  refine r_istore_n (pc := 1) (lv' := [some (.ref (xa X 17)), some (.int a1), some (.int 0), none, none]) E dX1_bestNext_1 rfl rfl rfl rfl ?_
  refine r_iconst (pc := 2) (v := (-1)) E dX1_bestNext_2 (by decide) ?_
  refine r_istore_n (pc := 3) (lv' := [some (.ref (xa X 17)), some (.int a1), some (.int 0), some (.int (-1)), none]) E dX1_bestNext_3 rfl rfl rfl rfl ?_
  refine r_iconst (pc := 4) (v := 0) E dX1_bestNext_4 (by decide) ?_
  refine r_istore (pc := 5) (lv' := [some (.ref (xa X 17)), some (.int a1), some (.int 0), some (.int (-1)), some (.int 0)]) E dX1_bestNext_5 rfl rfl rfl ?_
  obtain ⟨n1, h⟩ := h
  refine r_forget (le_s (le_s (le_s (le_s (le_s le_0))))) (t_X1_bestNext_L7 E hr ?_ n1 _ _ _ _ h)
  intro s3 x4 h
  refine r_iload_n (pc := 53) E dX1_bestNext_53 rfl rfl ?_
  exact r_iret (pc := 54) E hr dX1_bestNext_54 h

/-! ChairFront$BestWalk.plan -/
def rm_X1_plan : Room := { frames := 3, cells := 0, slots := 0, locals := 67 }
theorem ci_X1_plan : CI yX1_plan RX1 cX1_plan 5 none 2 := ⟨q_656, q_657, q_61, q_658, by decide +kernel⟩
def w_X1_plan_L7 (v1 : Int32) (K : ST → Prop) (Q : ST → Prop) : Nat → ST → Int32 → Prop
  | 0, _, _ => False
  | n + 1, s0, v3 => (((10 : Int32) ≤ v3 → (K s0)) ∧ (¬ ((10 : Int32) ≤ v3) → ((((7 : Int32) ≤ (s0 17 3) → (K s0)) ∧ (¬ ((7 : Int32) ≤ (s0 17 3)) → (((((v1 >>> (v3 &&& 31)) &&& 1) = 0 → (∀ x1 : Int32, x1 = v3 + 1 → (w_X1_plan_L7 v1 K Q n s0 x1))) ∧ (¬ (((v1 >>> (v3 &&& 31)) &&& 1) = 0) → (vp_in v3 10 ∧ (∀ k1 : Nat, k1 = 23 + v3.toNatClampNeg → (w_X1_addStop s0 v3 k1 (fun s2 => ∀ x2 : Int32, x2 = v3 + 1 → (w_X1_plan_L7 v1 K Q n s2 x2)))))))))))))
set_option maxRecDepth 100000 in
set_option maxHeartbeats 4000000 in
theorem t_X1_plan_L7 {p : Program} {l : Launch} {e : Env} {s : State} {m : MethodId} {args : Array Value} {below : List Frame} {meth : Method} {c : Code} {X : XT} (E : Ev p rm_X1_plan s m args meth c X (xA X) 5 0 0 cX1_plan RX1) (hr : meth.sig.returnType = none) {v1 : Int32} {K : ST → Prop} {Q : ST → Prop} (hK : ∀ (s0 : ST), K s0 → G p l e rm_X1_plan s m args below meth c X (xA X) 5 0 0 (MQ below (va_Qv Q (Bw X) (xA X)) args s 0 0 (xA X)) s0 44 [some (.ref (xa X 17)), none, none, none, none] []) : ∀ (n : Nat) (s0 : ST) (v3 : Int32), w_X1_plan_L7 v1 K Q n s0 v3 → G p l e rm_X1_plan s m args below meth c X (xA X) 5 0 0 (MQ below (va_Qv Q (Bw X) (xA X)) args s 0 0 (xA X)) s0 7 [some (.ref (xa X 17)), some (.int v1), some (.ref (xa X 1)), some (.int v3), none] [] := by
  intro n
  induction n with
  | zero => intro s0 v3 h; exact h.elim
  | succ n ih =>
    intro s0 v3 h
    refine r_iload_n (pc := 7) E dX1_plan_7 rfl rfl ?_
    refine r_aload_n (pc := 8) E dX1_plan_8 rfl rfl ?_
    refine r_alen (pc := 9) (v := 10) E (by decide) rfl rfl rfl dX1_plan_9 ?_
    refine r_icmp_ge (pc := 10) (tgt := 44) E dX1_plan_10 (by decide) (fun c1 => ?_) (fun c1 => ?_)
    · have h := h.1 c1
      exact r_forget (le_s (le_n (le_n (le_n (le_n le_0))))) (hK _  h)
    · have h := h.2 c1
      refine r_aload_n (pc := 13) E dX1_plan_13 rfl rfl ?_
      refine r_get (pc := 14) (j := 3) E ok_17 kc_1 rfl q_237 (svI rfl) dX1_plan_14 ?_
      refine r_bipush (pc := 17) (v := 7) E dX1_plan_17 (by decide) ?_
      refine r_icmp_ge (pc := 19) (tgt := 44) E dX1_plan_19 (by decide) (fun c2 => ?_) (fun c2 => ?_)
      · have h := h.1 c2
        exact r_forget (le_s (le_n (le_n (le_n (le_n le_0))))) (hK _  h)
      · have h := h.2 c2
        refine r_iload_n (pc := 22) E dX1_plan_22 rfl rfl ?_
        refine r_iload_n (pc := 23) E dX1_plan_23 rfl rfl ?_
        refine r_ishr (pc := 24) E dX1_plan_24 ?_
        refine r_iconst (pc := 25) (v := 1) E dX1_plan_25 (by decide) ?_
        refine r_iand (pc := 26) E dX1_plan_26 ?_
        refine r_if_eq (pc := 27) (tgt := 38) E dX1_plan_27 (by decide) (fun c3 => ?_) (fun c3 => ?_)
        · have h := h.1 c3
          obtain ⟨x1, ex1⟩ : ∃ z : Int32, z = v3 + 1 := ⟨_, rfl⟩
          have h := h x1 ex1
          refine r_iinc (pc := 38) (v := 1) (lv' := [some (.ref (xa X 17)), some (.int v1), some (.ref (xa X 1)), some (.int x1), none]) E dX1_plan_38 rfl (by decide) rfl rfl (by rw [ex1]; rfl) ?_
          refine r_goto (pc := 41) (tgt := 7) E dX1_plan_41 (by decide) ?_
          exact r_forget (le_s (le_s (le_s (le_s (le_n le_0))))) (ih _ _ h)
        · have h := h.2 c3
          refine r_aload_n (pc := 30) E dX1_plan_30 rfl rfl ?_
          refine r_iload_n (pc := 31) E dX1_plan_31 rfl rfl ?_
          refine r_aload_n (pc := 32) E dX1_plan_32 rfl rfl ?_
          refine r_iload_n (pc := 33) E dX1_plan_33 rfl rfl ?_
          refine r_aldSn (pc := 34) E h.1 dX1_plan_34 (fun k1 ek1 ok1 => ?_)
          have h := h.2 k1 ek1
          refine afterV (pc := 35) E (fun H locs ls hP hS hl => runV (As := [.int v3, .ref (xa X k1)]) (rest := []) E (c_X1_addStop X _ _ _ _ ok1 h) ok_17 kc_1.1 ci_X1_addStop q_659 rfl rfl rfl rfl dX1_plan_35 hP hS hl) (fun s2 h => ?_)
          obtain ⟨x2, ex2⟩ : ∃ z : Int32, z = v3 + 1 := ⟨_, rfl⟩
          have h := h x2 ex2
          refine r_iinc (pc := 38) (v := 1) (lv' := [some (.ref (xa X 17)), some (.int v1), some (.ref (xa X 1)), some (.int x2), none]) E dX1_plan_38 rfl (by decide) rfl rfl (by rw [ex2]; rfl) ?_
          refine r_goto (pc := 41) (tgt := 7) E dX1_plan_41 (by decide) ?_
          exact r_forget (le_s (le_s (le_s (le_s (le_n le_0))))) (ih _ _ h)

def w_X1_plan_L52 (v3 : Int32) (K : ST → Prop) (Q : ST → Prop) : Nat → ST → Int32 → Prop
  | 0, _, _ => False
  | n + 1, s0, v4 => ((v3 < v4 → (K s0)) ∧ (¬ (v3 < v4) → (w_X1_bestNext s0 v4 (fun r3 s5 => w_X1_findsBy s5 r3 v4 (fun r4 s6 => vp_in v4 128 ∧ (∀ s7 : ST, s7 = up s6 20 v4.toNatClampNeg r4 → (∀ x3 : Int32, x3 = v4 + 1 → (w_X1_plan_L52 v3 K Q n s7 x3))))))))
set_option maxRecDepth 100000 in
set_option maxHeartbeats 4000000 in
theorem t_X1_plan_L52 {p : Program} {l : Launch} {e : Env} {s : State} {m : MethodId} {args : Array Value} {below : List Frame} {meth : Method} {c : Code} {X : XT} (E : Ev p rm_X1_plan s m args meth c X (xA X) 5 0 0 cX1_plan RX1) (hr : meth.sig.returnType = none) {v3 : Int32} {K : ST → Prop} {Q : ST → Prop} (hK : ∀ (s0 : ST), K s0 → G p l e rm_X1_plan s m args below meth c X (xA X) 5 0 0 (MQ below (va_Qv Q (Bw X) (xA X)) args s 0 0 (xA X)) s0 83 [none, none, none, none, none] []) : ∀ (n : Nat) (s0 : ST) (v4 : Int32), w_X1_plan_L52 v3 K Q n s0 v4 → G p l e rm_X1_plan s m args below meth c X (xA X) 5 0 0 (MQ below (va_Qv Q (Bw X) (xA X)) args s 0 0 (xA X)) s0 52 [some (.ref (xa X 17)), none, none, some (.int v3), some (.int v4)] [] := by
  intro n
  induction n with
  | zero => intro s0 v4 h; exact h.elim
  | succ n ih =>
    intro s0 v4 h
    refine r_iload (pc := 52) E dX1_plan_52 rfl ?_
    refine r_iload_n (pc := 54) E dX1_plan_54 rfl rfl ?_
    refine r_icmp_gt (pc := 55) (tgt := 83) E dX1_plan_55 (by decide) (fun c4 => ?_) (fun c4 => ?_)
    · have h := h.1 c4
      exact r_forget (le_n (le_n (le_n (le_n (le_n le_0))))) (hK _  h)
    · have h := h.2 c4
      refine r_aload_n (pc := 58) E dX1_plan_58 rfl rfl ?_
      refine r_get (pc := 59) (j := 2) (v := .ref (xa X 20)) E ok_17 kc_1 rfl q_236 rfl dX1_plan_59 ?_
      refine r_iload (pc := 62) E dX1_plan_62 rfl ?_
      refine r_aload_n (pc := 64) E dX1_plan_64 rfl rfl ?_
      refine r_aload_n (pc := 65) E dX1_plan_65 rfl rfl ?_
      refine r_iload (pc := 66) E dX1_plan_66 rfl ?_
      refine afterI (pc := 68) E (fun H locs ls hP hS hl => runV (As := [.int v4]) (rest := [.ref (xa X 17), .int v4, .ref (xa X 20)]) E (c_X1_bestNext X _ _ _  h) ok_17 kc_1.1 ci_X1_bestNext q_672 rfl rfl rfl rfl dX1_plan_68 hP hS hl) (fun r3 s5 h => ?_)
      refine r_iload (pc := 71) E dX1_plan_71 rfl ?_
      refine afterI (pc := 73) E (fun H locs ls hP hS hl => runV (As := [.int r3, .int v4]) (rest := [.int v4, .ref (xa X 20)]) E (c_X1_findsBy X _ _ _ _  h) ok_17 kc_1.1 ci_X1_findsBy q_676 rfl rfl rfl rfl dX1_plan_73 hP hS hl) (fun r4 s6 h => ?_)
      refine r_iast (pc := 76) (n := 128) E ok_20 rfl h.1 dX1_plan_76 (fun s7 es7 => ?_)
      have h := h.2 s7 es7
      obtain ⟨x3, ex3⟩ : ∃ z : Int32, z = v4 + 1 := ⟨_, rfl⟩
      have h := h x3 ex3
      refine r_iinc (pc := 77) (v := 1) (lv' := [some (.ref (xa X 17)), none, none, some (.int v3), some (.int x3)]) E dX1_plan_77 rfl (by decide) rfl rfl (by rw [ex3]; rfl) ?_
      refine r_goto (pc := 80) (tgt := 52) E dX1_plan_80 (by decide) ?_
      exact r_forget (le_s (le_n (le_n (le_s (le_s le_0))))) (ih _ _ h)

def w_X1_plan (s0 : ST) (a1 : Int32) (Q : ST → Prop) : Prop := ∀ s1 : ST, s1 = up s0 17 3 0 → (∃ n1 : Nat, w_X1_plan_L7 a1 (fun (s3 : ST) => w_X1_allStops s3 (fun r2 s4 => ∃ n2 : Nat, w_X1_plan_L52 r2 (fun (s8 : ST) => Q s8) Q n2 s4 1)) Q n1 s1 0)
set_option maxRecDepth 100000 in
set_option maxHeartbeats 4000000 in
theorem c_X1_plan {l : Launch} (X : XT) (s0 : ST) (a1 : Int32) (Q : ST → Prop) (h : w_X1_plan s0 a1 Q) : MetV l yX1_plan (wS yX1_plan cX1_plan 5 none) rm_X1_plan X s0 [.ref (xa X 17), .int a1, .ref (xa X 1)] Q := by
  refine metG (own := RX1) (k := 2) (lv0 := [some (.ref (xa X 17)), some (.int a1), some (.ref (xa X 1)), none, none]) (by decide) rfl rfl rfl ?_
  intro p e s m args below meth c E hr
  refine r_aload_n (pc := 0) E dX1_plan_0 rfl rfl ?_
  refine r_iconst (pc := 1) (v := 0) E dX1_plan_1 (by decide) ?_
  refine r_put (pc := 2) (j := 3) E ok_17 kc_1 rfl q_237 rfl rfl rfl dX1_plan_2 (fun s1 es1 => ?_)
  have h := h s1 es1
  refine r_iconst (pc := 5) (v := 0) E dX1_plan_5 (by decide) ?_
  refine r_istore_n (pc := 6) (lv' := [some (.ref (xa X 17)), some (.int a1), some (.ref (xa X 1)), some (.int 0), none]) E dX1_plan_6 rfl rfl rfl rfl ?_
  obtain ⟨n1, h⟩ := h
  refine r_forget (le_s (le_s (le_s (le_s (le_n le_0))))) (t_X1_plan_L7 E hr ?_ n1 _ _ h)
  intro s3 h
  refine r_aload_n (pc := 44) E dX1_plan_44 rfl rfl ?_
  refine afterI (pc := 45) E (fun H locs ls hP hS hl => runV (As := []) (rest := []) E (c_X1_allStops X _  _  h) ok_17 kc_1.1 ci_X1_allStops q_668 rfl rfl rfl rfl dX1_plan_45 hP hS hl) (fun r2 s4 h => ?_)
  refine r_istore_n (pc := 48) (lv' := [some (.ref (xa X 17)), none, none, some (.int r2), none]) E dX1_plan_48 rfl rfl rfl rfl ?_
  refine r_iconst (pc := 49) (v := 1) E dX1_plan_49 (by decide) ?_
  refine r_istore (pc := 50) (lv' := [some (.ref (xa X 17)), none, none, some (.int r2), some (.int 1)]) E dX1_plan_50 rfl rfl rfl ?_
  obtain ⟨n2, h⟩ := h
  refine r_forget (le_s (le_n (le_n (le_s (le_s le_0))))) (t_X1_plan_L52 E hr ?_ n2 _ _ h)
  intro s8 h
  exact r_vret (pc := 83) E hr dX1_plan_83 h

/-! ChairFront$BestWalk.finds -/
def rm_X1_finds : Room := { frames := 1, cells := 0, slots := 0, locals := 20 }
theorem ci_X1_finds : CI yX1_finds RX1 cX1_finds 1 (some .int) 0 := ⟨q_682, q_683, q_61, q_684, by decide +kernel⟩
def w_X1_finds (s0 : ST) (Q : Int32 → ST → Prop) : Prop := w_X1_allStops s0 (fun r1 s1 => vp_in r1 128 ∧ (Q (s1 20 r1.toNatClampNeg) s1))
set_option maxRecDepth 100000 in
set_option maxHeartbeats 4000000 in
theorem c_X1_finds {l : Launch} (X : XT) (s0 : ST) (Q : Int32 → ST → Prop) (h : w_X1_finds s0 Q) : MetI l yX1_finds (wS yX1_finds cX1_finds 1 (some .int)) rm_X1_finds X s0 [.ref (xa X 17)] Q := by
  refine metG (own := RX1) (k := 0) (lv0 := [some (.ref (xa X 17))]) (by decide) rfl rfl rfl ?_
  intro p e s m args below meth c E hr
  refine r_aload_n (pc := 0) E dX1_finds_0 rfl rfl ?_
  refine r_get (pc := 1) (j := 2) (v := .ref (xa X 20)) E ok_17 kc_1 rfl q_236 rfl dX1_finds_1 ?_
  refine r_aload_n (pc := 4) E dX1_finds_4 rfl rfl ?_
  refine afterI (pc := 5) E (fun H locs ls hP hS hl => runV (As := []) (rest := [.ref (xa X 20)]) E (c_X1_allStops X _  _  h) ok_17 kc_1.1 ci_X1_allStops q_668 rfl rfl rfl rfl dX1_finds_5 hP hS hl) (fun r1 s1 h => ?_)
  refine r_iald (pc := 8) (n := 128) E ok_20 rfl h.1 dX1_finds_8 ?_
  have h := h.2
  exact r_iret (pc := 9) E hr dX1_finds_9 h

/-! ChairFront$BestWalk.stopAt -/
def rm_X1_stopAt : Room := { frames := 3, cells := 0, slots := 0, locals := 67 }
theorem ci_X1_stopAt : CI yX1_stopAt RX1 cX1_stopAt 4 (some .int) 1 := ⟨q_686, q_687, q_61, q_688, by decide +kernel⟩
def w_X1_stopAt_L24 (v1 : Int32) (K : ST → Int32 → Prop) (Q : Int32 → ST → Prop) : Nat → ST → Int32 → Int32 → Prop
  | 0, _, _, _ => False
  | n + 1, s0, v2, v3 => ((v1 ≤ v3 → (K s0 v2)) ∧ (¬ (v1 ≤ v3) → (w_X1_bestNext s0 v2 (fun r3 s3 => ∀ x1 : Int32, x1 = (v2 &&& ((1 <<< (r3 &&& 31)) ^^^ (-1))) → (∀ x2 : Int32, x2 = v3 + 1 → (w_X1_stopAt_L24 v1 K Q n s3 x1 x2))))))
set_option maxRecDepth 100000 in
set_option maxHeartbeats 4000000 in
theorem t_X1_stopAt_L24 {p : Program} {l : Launch} {e : Env} {s : State} {m : MethodId} {args : Array Value} {below : List Frame} {meth : Method} {c : Code} {X : XT} (E : Ev p rm_X1_stopAt s m args meth c X (xA X) 4 0 0 cX1_stopAt RX1) (hr : meth.sig.returnType = (some .int)) {v1 : Int32} {K : ST → Int32 → Prop} {Q : Int32 → ST → Prop} (hK : ∀ (s0 : ST) (v2 : Int32), K s0 v2 → G p l e rm_X1_stopAt s m args below meth c X (xA X) 4 0 0 (MQ below (va_Qi Q (Bw X) (xA X)) args s 0 0 (xA X)) s0 47 [some (.ref (xa X 17)), none, some (.int v2), none] []) : ∀ (n : Nat) (s0 : ST) (v2 : Int32) (v3 : Int32), w_X1_stopAt_L24 v1 K Q n s0 v2 v3 → G p l e rm_X1_stopAt s m args below meth c X (xA X) 4 0 0 (MQ below (va_Qi Q (Bw X) (xA X)) args s 0 0 (xA X)) s0 24 [some (.ref (xa X 17)), some (.int v1), some (.int v2), some (.int v3)] [] := by
  intro n
  induction n with
  | zero => intro s0 v2 v3 h; exact h.elim
  | succ n ih =>
    intro s0 v2 v3 h
    refine r_iload_n (pc := 24) E dX1_stopAt_24 rfl rfl ?_
    refine r_iload_n (pc := 25) E dX1_stopAt_25 rfl rfl ?_
    refine r_icmp_ge (pc := 26) (tgt := 47) E dX1_stopAt_26 (by decide) (fun c2 => ?_) (fun c2 => ?_)
    · have h := h.1 c2
      exact r_forget (le_s (le_n (le_s (le_n le_0)))) (hK _ _ h)
    · have h := h.2 c2
      refine r_iload_n (pc := 29) E dX1_stopAt_29 rfl rfl ?_
      refine r_iconst (pc := 30) (v := 1) E dX1_stopAt_30 (by decide) ?_
      refine r_aload_n (pc := 31) E dX1_stopAt_31 rfl rfl ?_
      refine r_iload_n (pc := 32) E dX1_stopAt_32 rfl rfl ?_
      refine afterI (pc := 33) E (fun H locs ls hP hS hl => runV (As := [.int v2]) (rest := [.int 1, .int v2]) E (c_X1_bestNext X _ _ _  h) ok_17 kc_1.1 ci_X1_bestNext q_672 rfl rfl rfl rfl dX1_stopAt_33 hP hS hl) (fun r3 s3 h => ?_)
      refine r_ishl (pc := 36) E dX1_stopAt_36 ?_
      refine r_iconst (pc := 37) (v := (-1)) E dX1_stopAt_37 (by decide) ?_
      refine r_ixor (pc := 38) E dX1_stopAt_38 ?_
      refine r_iand (pc := 39) E dX1_stopAt_39 ?_
      refine r_topi (fun x1 ex1 => ?_)
      have h := h x1 ex1
      refine r_istore_n (pc := 40) (lv' := [some (.ref (xa X 17)), some (.int v1), some (.int x1), some (.int v3)]) E dX1_stopAt_40 rfl rfl rfl rfl ?_
      obtain ⟨x2, ex2⟩ : ∃ z : Int32, z = v3 + 1 := ⟨_, rfl⟩
      have h := h x2 ex2
      refine r_iinc (pc := 41) (v := 1) (lv' := [some (.ref (xa X 17)), some (.int v1), some (.int x1), some (.int x2)]) E dX1_stopAt_41 rfl (by decide) rfl rfl (by rw [ex2]; rfl) ?_
      refine r_goto (pc := 44) (tgt := 24) E dX1_stopAt_44 (by decide) ?_
      exact r_forget (le_s (le_s (le_s (le_s le_0)))) (ih _ _ _ h)

def w_X1_stopAt (s0 : ST) (a1 : Int32) (Q : Int32 → ST → Prop) : Prop := w_X8_within s0 a1 0 ((s0 17 3) - 1) (fun r1 s1 => ((¬ r1 = 0 → (w_X1_allStops s1 (fun r2 s2 => ∃ n1 : Nat, w_X1_stopAt_L24 a1 (fun (s4 : ST) (x3 : Int32) => w_X1_bestNext s4 x3 (fun r4 s5 => vp_in r4 7 ∧ (Q (s5 18 r4.toNatClampNeg) s5))) Q n1 s2 r2 0))) ∧ (r1 = 0 → (Q (-1000000) s1))))
set_option maxRecDepth 100000 in
set_option maxHeartbeats 4000000 in
theorem c_X1_stopAt {l : Launch} (X : XT) (s0 : ST) (a1 : Int32) (Q : Int32 → ST → Prop) (h : w_X1_stopAt s0 a1 Q) : MetI l yX1_stopAt (wS yX1_stopAt cX1_stopAt 4 (some .int)) rm_X1_stopAt X s0 [.ref (xa X 17), .int a1] Q := by
  refine metG (own := RX1) (k := 2) (lv0 := [some (.ref (xa X 17)), some (.int a1), none, none]) (by decide) rfl rfl rfl ?_
  intro p e s m args below meth c E hr
  refine r_iload_n (pc := 0) E dX1_stopAt_0 rfl rfl ?_
  refine r_iconst (pc := 1) (v := 0) E dX1_stopAt_1 (by decide) ?_
  refine r_aload_n (pc := 2) E dX1_stopAt_2 rfl rfl ?_
  refine r_get (pc := 3) (j := 3) E ok_17 kc_1 rfl q_237 (svI rfl) dX1_stopAt_3 ?_
  refine r_iconst (pc := 6) (v := 1) E dX1_stopAt_6 (by decide) ?_
  refine r_isub (pc := 7) E dX1_stopAt_7 ?_
  refine afterI (pc := 8) E (fun H locs ls hP hS hl => runN (As := [.int a1, .int 0, .int ((s0 17 3) - 1)]) (rest := []) E (c_X8_within X _ _ _ _ _  h) cs_X8_within E.kb.2.2.1 rfl rfl rfl rfl dX1_stopAt_8 hP hS hl) (fun r1 s1 h => ?_)
  refine r_if_ne (pc := 11) (tgt := 17) E dX1_stopAt_11 (by decide) (fun c1 => ?_) (fun c1 => ?_)
  · have h := h.1 c1
    refine r_aload_n (pc := 17) E dX1_stopAt_17 rfl rfl ?_
    refine afterI (pc := 18) E (fun H locs ls hP hS hl => runV (As := []) (rest := []) E (c_X1_allStops X _  _  h) ok_17 kc_1.1 ci_X1_allStops q_668 rfl rfl rfl rfl dX1_stopAt_18 hP hS hl) (fun r2 s2 h => ?_)
    refine r_istore_n (pc := 21) (lv' := [some (.ref (xa X 17)), some (.int a1), some (.int r2), none]) E dX1_stopAt_21 rfl rfl rfl rfl ?_
    refine r_iconst (pc := 22) (v := 0) E dX1_stopAt_22 (by decide) ?_
    refine r_istore_n (pc := 23) (lv' := [some (.ref (xa X 17)), some (.int a1), some (.int r2), some (.int 0)]) E dX1_stopAt_23 rfl rfl rfl rfl ?_
    obtain ⟨n1, h⟩ := h
    refine r_forget (le_s (le_s (le_s (le_s le_0)))) (t_X1_stopAt_L24 E hr ?_ n1 _ _ _ h)
    intro s4 x3 h
    refine r_aload_n (pc := 47) E dX1_stopAt_47 rfl rfl ?_
    refine r_get (pc := 48) (j := 0) (v := .ref (xa X 18)) E ok_17 kc_1 rfl q_234 rfl dX1_stopAt_48 ?_
    refine r_aload_n (pc := 51) E dX1_stopAt_51 rfl rfl ?_
    refine r_iload_n (pc := 52) E dX1_stopAt_52 rfl rfl ?_
    refine afterI (pc := 53) E (fun H locs ls hP hS hl => runV (As := [.int x3]) (rest := [.ref (xa X 18)]) E (c_X1_bestNext X _ _ _  h) ok_17 kc_1.1 ci_X1_bestNext q_672 rfl rfl rfl rfl dX1_stopAt_53 hP hS hl) (fun r4 s5 h => ?_)
    refine r_iald (pc := 56) (n := 7) E ok_18 rfl h.1 dX1_stopAt_56 ?_
    have h := h.2
    exact r_iret (pc := 57) E hr dX1_stopAt_57 h
  · have h := h.2 c1
    refine r_ldc (pc := 14) (v := (-1000000)) E q_690 dX1_stopAt_14 ?_
    exact r_iret (pc := 16) E hr dX1_stopAt_16 h

/-! ChairFront.walk -/
def rm_X8_walk : Room := { frames := 4, cells := 0, slots := 0, locals := 91 }
theorem ci_X8_walk : CI yX8_walk RX8 cX8_walk 3 (some .int) 2 := ⟨q_646, q_647, q_55, q_648, by decide +kernel⟩
def w_X8_walk (s0 : ST) (a1 : Int32) (a2 : Int32) (Q : Int32 → ST → Prop) : Prop := ((a1 ≤ 0 → (Q (-1000001) s0)) ∧ (¬ (a1 ≤ 0) → (((¬ (a1 >>> ((s0 0 7) &&& 31)) = 0 → (Q (-1000001) s0)) ∧ ((a1 >>> ((s0 0 7) &&& 31)) = 0 → (w_J6_bitCount_0f7a4 s0 a1 (fun r1 s1 => ((r1 ≤ 7 → (w_X1_plan s1 a1 (fun s2 => ((¬ a2 = (-1000000) → (w_X1_stopAt s2 a2 (fun r3 s3 => Q r3 s3))) ∧ (a2 = (-1000000) → (w_X1_finds s2 (fun r4 s4 => Q r4 s4))))))) ∧ (¬ (r1 ≤ 7) → (Q (-1000001) s1))))))))))
set_option maxRecDepth 100000 in
set_option maxHeartbeats 4000000 in
theorem c_X8_walk {l : Launch} (X : XT) (s0 : ST) (a1 : Int32) (a2 : Int32) (Q : Int32 → ST → Prop) (h : w_X8_walk s0 a1 a2 Q) : MetI l yX8_walk (wS yX8_walk cX8_walk 3 (some .int)) rm_X8_walk X s0 [.ref (xa X 0), .int a1, .int a2] Q := by
  refine metG (own := RX8) (k := 0) (lv0 := [some (.ref (xa X 0)), some (.int a1), some (.int a2)]) (by decide) rfl rfl rfl ?_
  intro p e s m args below meth c E hr
  refine r_iload_n (pc := 0) E dX8_walk_0 rfl rfl ?_
  refine r_if_le (pc := 1) (tgt := 22) E dX8_walk_1 (by decide) (fun c1 => ?_) (fun c1 => ?_)
  · have h := h.1 c1
    refine r_ldc (pc := 22) (v := (-1000001)) E q_359 dX8_walk_22 ?_
    exact r_iret (pc := 24) E hr dX8_walk_24 h
  · have h := h.2 c1
    refine r_iload_n (pc := 4) E dX8_walk_4 rfl rfl ?_
    refine r_aload_n (pc := 5) E dX8_walk_5 rfl rfl ?_
    refine r_get (pc := 6) (j := 7) E ok_0 kc_8 rfl q_310 (svI rfl) dX8_walk_6 ?_
    refine r_ishr (pc := 9) E dX8_walk_9 ?_
    refine r_if_ne (pc := 10) (tgt := 22) E dX8_walk_10 (by decide) (fun c2 => ?_) (fun c2 => ?_)
    · have h := h.1 c2
      refine r_ldc (pc := 22) (v := (-1000001)) E q_359 dX8_walk_22 ?_
      exact r_iret (pc := 24) E hr dX8_walk_24 h
    · have h := h.2 c2
      refine r_iload_n (pc := 13) E dX8_walk_13 rfl rfl ?_
      refine afterI (pc := 14) E (fun H locs ls hP hS hl => runS (As := [.int a1]) (rest := []) E (c_J6_bitCount_0f7a4 X _ _ _  h) cs_J6_bitCount_0f7a4 q_649 rfl rfl rfl rfl dX8_walk_14 hP hS hl) (fun r1 s1 h => ?_)
      refine r_bipush (pc := 17) (v := 7) E dX8_walk_17 (by decide) ?_
      refine r_icmp_le (pc := 19) (tgt := 25) E dX8_walk_19 (by decide) (fun c3 => ?_) (fun c3 => ?_)
      · have h := h.1 c3
        refine r_aload_n (pc := 25) E dX8_walk_25 rfl rfl ?_
        refine r_get (pc := 26) (j := 14) (v := .ref (xa X 17)) E ok_0 kc_8 rfl q_317 rfl dX8_walk_26 ?_
        refine r_iload_n (pc := 29) E dX8_walk_29 rfl rfl ?_
        refine r_aload_n (pc := 30) E dX8_walk_30 rfl rfl ?_
        refine r_get (pc := 31) (j := 8) (v := .ref (xa X 1)) E ok_0 kc_8 rfl q_311 rfl dX8_walk_31 ?_
        refine afterV (pc := 34) E (fun H locs ls hP hS hl => runV (As := [.int a1, .ref (xa X 1)]) (rest := []) E (c_X1_plan X _ _ _  h) ok_17 kc_1.1 ci_X1_plan q_655 rfl rfl rfl rfl dX8_walk_34 hP hS hl) (fun s2 h => ?_)
        refine r_iload_n (pc := 37) E dX8_walk_37 rfl rfl ?_
        refine r_ldc (pc := 38) (v := (-1000000)) E q_369 dX8_walk_38 ?_
        refine r_icmp_ne (pc := 40) (tgt := 53) E dX8_walk_40 (by decide) (fun c4 => ?_) (fun c4 => ?_)
        · have h := h.1 c4
          refine r_aload_n (pc := 53) E dX8_walk_53 rfl rfl ?_
          refine r_get (pc := 54) (j := 14) (v := .ref (xa X 17)) E ok_0 kc_8 rfl q_317 rfl dX8_walk_54 ?_
          refine r_iload_n (pc := 57) E dX8_walk_57 rfl rfl ?_
          refine afterI (pc := 58) E (fun H locs ls hP hS hl => runV (As := [.int a2]) (rest := []) E (c_X1_stopAt X _ _ _  h) ok_17 kc_1.1 ci_X1_stopAt q_685 rfl rfl rfl rfl dX8_walk_58 hP hS hl) (fun r3 s3 h => ?_)
          exact r_iret (pc := 61) E hr dX8_walk_61 h
        · have h := h.2 c4
          refine r_aload_n (pc := 43) E dX8_walk_43 rfl rfl ?_
          refine r_get (pc := 44) (j := 14) (v := .ref (xa X 17)) E ok_0 kc_8 rfl q_317 rfl dX8_walk_44 ?_
          refine afterI (pc := 47) E (fun H locs ls hP hS hl => runV (As := []) (rest := []) E (c_X1_finds X _  _  h) ok_17 kc_1.1 ci_X1_finds q_681 rfl rfl rfl rfl dX8_walk_47 hP hS hl) (fun r4 s4 h => ?_)
          refine r_goto (pc := 50) (tgt := 61) E dX8_walk_50 (by decide) ?_
          exact r_iret (pc := 61) E hr dX8_walk_61 h
      · have h := h.2 c3
        refine r_ldc (pc := 22) (v := (-1000001)) E q_359 dX8_walk_22 ?_
        exact r_iret (pc := 24) E hr dX8_walk_24 h

/-! ChairFront$Stretch.toldKind -/
def rm_X4_toldKind : Room := { frames := 1, cells := 0, slots := 0, locals := 20 }
theorem ci_X4_toldKind : CI yX4_toldKind RX4 cX4_toldKind 1 (some .int) 0 := ⟨q_696, q_697, q_64, q_698, by decide +kernel⟩
def w_X4_toldKind (s0 : ST) (k0 : Nat) (Q : Int32 → ST → Prop) : Prop := ((¬ (s0 k0 2) = 0 → (w_X4_free s0 k0 (fun r1 s1 => ((r1 ≤ 0 → ((((s1 k0 5) < 1 → (Q 1 s1)) ∧ (¬ ((s1 k0 5) < 1) → (Q 2 s1))))) ∧ (¬ (r1 ≤ 0) → (Q 0 s1)))))) ∧ ((s0 k0 2) = 0 → (Q 3 s0)))
set_option maxRecDepth 100000 in
set_option maxHeartbeats 4000000 in
theorem c_X4_toldKind {l : Launch} (X : XT) (s0 : ST) (k0 : Nat) (Q : Int32 → ST → Prop) (hk0 : okc 4 k0) (h : w_X4_toldKind s0 k0 Q) : MetI l yX4_toldKind (wS yX4_toldKind cX4_toldKind 1 (some .int)) rm_X4_toldKind X s0 [.ref (xa X k0)] Q := by
  refine metG (own := RX4) (k := 0) (lv0 := [some (.ref (xa X k0))]) (by decide) rfl rfl rfl ?_
  intro p e s m args below meth c E hr
  refine r_aload_n (pc := 0) E dX4_toldKind_0 rfl rfl ?_
  refine r_get (pc := 1) (j := 2) E hk0 kc_4 rfl q_277 (svI (r0 (.inl hk0) rfl)) dX4_toldKind_1 ?_
  refine r_if_ne (pc := 4) (tgt := 9) E dX4_toldKind_4 (by decide) (fun c1 => ?_) (fun c1 => ?_)
  · have h := h.1 c1
    refine r_aload_n (pc := 9) E dX4_toldKind_9 rfl rfl ?_
    refine afterI (pc := 10) E (fun H locs ls hP hS hl => runV (As := []) (rest := []) E (c_X4_free X _ _ _ hk0 h) hk0 kc_4.1 ci_X4_free q_699 rfl rfl rfl rfl dX4_toldKind_10 hP hS hl) (fun r1 s1 h => ?_)
    refine r_if_le (pc := 13) (tgt := 18) E dX4_toldKind_13 (by decide) (fun c2 => ?_) (fun c2 => ?_)
    · have h := h.1 c2
      refine r_aload_n (pc := 18) E dX4_toldKind_18 rfl rfl ?_
      refine r_get (pc := 19) (j := 5) E hk0 kc_4 rfl q_283 (svI (r0 (.inl hk0) rfl)) dX4_toldKind_19 ?_
      refine r_iconst (pc := 22) (v := 1) E dX4_toldKind_22 (by decide) ?_
      refine r_icmp_lt (pc := 23) (tgt := 30) E dX4_toldKind_23 (by decide) (fun c3 => ?_) (fun c3 => ?_)
      · have h := h.1 c3
        refine r_iconst (pc := 30) (v := 1) E dX4_toldKind_30 (by decide) ?_
        exact r_iret (pc := 31) E hr dX4_toldKind_31 h
      · have h := h.2 c3
        refine r_iconst (pc := 26) (v := 2) E dX4_toldKind_26 (by decide) ?_
        refine r_goto (pc := 27) (tgt := 31) E dX4_toldKind_27 (by decide) ?_
        exact r_iret (pc := 31) E hr dX4_toldKind_31 h
    · have h := h.2 c2
      refine r_iconst (pc := 16) (v := 0) E dX4_toldKind_16 (by decide) ?_
      exact r_iret (pc := 17) E hr dX4_toldKind_17 h
  · have h := h.2 c1
    refine r_iconst (pc := 7) (v := 3) E dX4_toldKind_7 (by decide) ?_
    exact r_iret (pc := 8) E hr dX4_toldKind_8 h

/-! ChairFront.kind -/
def rm_X8_kind : Room := { frames := 2, cells := 0, slots := 0, locals := 43 }
theorem ci_X8_kind : CI yX8_kind RX8 cX8_kind 2 (some .int) 1 := ⟨q_692, q_693, q_55, q_694, by decide +kernel⟩
def w_X8_kind (s0 : ST) (a1 : Int32) (Q : Int32 → ST → Prop) : Prop := w_X8_isStretch s0 a1 (fun r1 s1 => ((¬ r1 = 0 → (vp_in a1 10 ∧ (∀ k1 : Nat, k1 = 23 + a1.toNatClampNeg → (w_X4_toldKind s1 k1 (fun r2 s2 => Q r2 s2))))) ∧ (r1 = 0 → (Q (-1000001) s1))))
set_option maxRecDepth 100000 in
set_option maxHeartbeats 4000000 in
theorem c_X8_kind {l : Launch} (X : XT) (s0 : ST) (a1 : Int32) (Q : Int32 → ST → Prop) (h : w_X8_kind s0 a1 Q) : MetI l yX8_kind (wS yX8_kind cX8_kind 2 (some .int)) rm_X8_kind X s0 [.ref (xa X 0), .int a1] Q := by
  refine metG (own := RX8) (k := 0) (lv0 := [some (.ref (xa X 0)), some (.int a1)]) (by decide) rfl rfl rfl ?_
  intro p e s m args below meth c E hr
  refine r_aload_n (pc := 0) E dX8_kind_0 rfl rfl ?_
  refine r_iload_n (pc := 1) E dX8_kind_1 rfl rfl ?_
  refine afterI (pc := 2) E (fun H locs ls hP hS hl => runV (As := [.int a1]) (rest := []) E (c_X8_isStretch X _ _ _  h) ok_0 kc_8.1 ci_X8_isStretch q_370 rfl rfl rfl rfl dX8_kind_2 hP hS hl) (fun r1 s1 h => ?_)
  refine r_if_ne (pc := 5) (tgt := 11) E dX8_kind_5 (by decide) (fun c1 => ?_) (fun c1 => ?_)
  · have h := h.1 c1
    refine r_aload_n (pc := 11) E dX8_kind_11 rfl rfl ?_
    refine r_get (pc := 12) (j := 8) (v := .ref (xa X 1)) E ok_0 kc_8 rfl q_311 rfl dX8_kind_12 ?_
    refine r_iload_n (pc := 15) E dX8_kind_15 rfl rfl ?_
    refine r_aldSn (pc := 16) E h.1 dX8_kind_16 (fun k1 ek1 ok1 => ?_)
    have h := h.2 k1 ek1
    refine afterI (pc := 17) E (fun H locs ls hP hS hl => runV (As := []) (rest := []) E (c_X4_toldKind X _ _ _ ok1 h) ok1 kc_4.1 ci_X4_toldKind q_695 rfl rfl rfl rfl dX8_kind_17 hP hS hl) (fun r2 s2 h => ?_)
    exact r_iret (pc := 20) E hr dX8_kind_20 h
  · have h := h.2 c1
    refine r_ldc (pc := 8) (v := (-1000001)) E q_359 dX8_kind_8 ?_
    exact r_iret (pc := 10) E hr dX8_kind_10 h

/-! ChairFront$Stretch.isOf -/
def rm_X4_isOf : Room := { frames := 2, cells := 0, slots := 0, locals := 40 }
theorem ci_X4_isOf : CI yX4_isOf RX4 cX4_isOf 3 (some .boolean) 1 := ⟨q_705, q_706, q_64, q_707, by decide +kernel⟩
def w_X4_isOf (s0 : ST) (k0 : Nat) (a1 : Int32) (Q : Int32 → ST → Prop) : Prop := w_X4_toldKind s0 k0 (fun r1 s1 => ((a1 = 0 → (Q 1 s1)) ∧ (¬ (a1 = 0) → (((a1 = r1 → (Q 1 s1)) ∧ (¬ (a1 = r1) → (((¬ a1 = 1 → (Q 0 s1)) ∧ (a1 = 1 → (((¬ r1 = 2 → (Q 0 s1)) ∧ (r1 = 2 → (Q 1 s1)))))))))))))
set_option maxRecDepth 100000 in
set_option maxHeartbeats 4000000 in
theorem c_X4_isOf {l : Launch} (X : XT) (s0 : ST) (k0 : Nat) (a1 : Int32) (Q : Int32 → ST → Prop) (hk0 : okc 4 k0) (h : w_X4_isOf s0 k0 a1 Q) : MetI l yX4_isOf (wS yX4_isOf cX4_isOf 3 (some .boolean)) rm_X4_isOf X s0 [.ref (xa X k0), .int a1] Q := by
  refine metG (own := RX4) (k := 1) (lv0 := [some (.ref (xa X k0)), some (.int a1), none]) (by decide) rfl rfl rfl ?_
  intro p e s m args below meth c E hr
  refine r_aload_n (pc := 0) E dX4_isOf_0 rfl rfl ?_
  refine afterI (pc := 1) E (fun H locs ls hP hS hl => runV (As := []) (rest := []) E (c_X4_toldKind X _ _ _ hk0 h) hk0 kc_4.1 ci_X4_toldKind q_708 rfl rfl rfl rfl dX4_isOf_1 hP hS hl) (fun r1 s1 h => ?_)
  refine r_istore_n (pc := 4) (lv' := [some (.ref (xa X k0)), some (.int a1), some (.int r1)]) E dX4_isOf_4 rfl rfl rfl rfl ?_
  refine r_iload_n (pc := 5) E dX4_isOf_5 rfl rfl ?_
  refine r_if_eq (pc := 6) (tgt := 24) E dX4_isOf_6 (by decide) (fun c1 => ?_) (fun c1 => ?_)
  · have h := h.1 c1
    refine r_iconst (pc := 24) (v := 1) E dX4_isOf_24 (by decide) ?_
    refine r_goto (pc := 25) (tgt := 29) E dX4_isOf_25 (by decide) ?_
    exact r_zret (pc := 29) E hr dX4_isOf_29 rfl h
  · have h := h.2 c1
    refine r_iload_n (pc := 9) E dX4_isOf_9 rfl rfl ?_
    refine r_iload_n (pc := 10) E dX4_isOf_10 rfl rfl ?_
    refine r_icmp_eq (pc := 11) (tgt := 24) E dX4_isOf_11 (by decide) (fun c2 => ?_) (fun c2 => ?_)
    · have h := h.1 c2
      refine r_iconst (pc := 24) (v := 1) E dX4_isOf_24 (by decide) ?_
      refine r_goto (pc := 25) (tgt := 29) E dX4_isOf_25 (by decide) ?_
      exact r_zret (pc := 29) E hr dX4_isOf_29 rfl h
    · have h := h.2 c2
      refine r_iload_n (pc := 14) E dX4_isOf_14 rfl rfl ?_
      refine r_iconst (pc := 15) (v := 1) E dX4_isOf_15 (by decide) ?_
      refine r_icmp_ne (pc := 16) (tgt := 28) E dX4_isOf_16 (by decide) (fun c3 => ?_) (fun c3 => ?_)
      · have h := h.1 c3
        refine r_iconst (pc := 28) (v := 0) E dX4_isOf_28 (by decide) ?_
        exact r_zret (pc := 29) E hr dX4_isOf_29 rfl h
      · have h := h.2 c3
        refine r_iload_n (pc := 19) E dX4_isOf_19 rfl rfl ?_
        refine r_iconst (pc := 20) (v := 2) E dX4_isOf_20 (by decide) ?_
        refine r_icmp_ne (pc := 21) (tgt := 28) E dX4_isOf_21 (by decide) (fun c4 => ?_) (fun c4 => ?_)
        · have h := h.1 c4
          refine r_iconst (pc := 28) (v := 0) E dX4_isOf_28 (by decide) ?_
          exact r_zret (pc := 29) E hr dX4_isOf_29 rfl h
        · have h := h.2 c4
          refine r_iconst (pc := 24) (v := 1) E dX4_isOf_24 (by decide) ?_
          refine r_goto (pc := 25) (tgt := 29) E dX4_isOf_25 (by decide) ?_
          exact r_zret (pc := 29) E hr dX4_isOf_29 rfl h

/-! ChairFront.as -/
def rm_X8_as : Room := { frames := 3, cells := 0, slots := 0, locals := 62 }
theorem ci_X8_as : CI yX8_as RX8 cX8_as 4 (some .int) 2 := ⟨q_701, q_702, q_55, q_703, by decide +kernel⟩
def w_X8_as (s0 : ST) (a1 : Int32) (a2 : Int32) (Q : Int32 → ST → Prop) : Prop := w_X8_isStretch s0 a1 (fun r1 s1 => ((r1 = 0 → (Q (-1000001) s1)) ∧ (¬ (r1 = 0) → (w_X8_within s1 a2 0 3 (fun r2 s2 => ((¬ r2 = 0 → (vp_in a1 10 ∧ (∀ k1 : Nat, k1 = 23 + a1.toNatClampNeg → (w_X4_isOf s2 k1 a2 (fun r3 s3 => ((r3 = 0 → (Q (-1000004) s3)) ∧ (¬ (r3 = 0) → (Q (s3 k1 0) s3)))))))) ∧ (r2 = 0 → (Q (-1000001) s2))))))))
set_option maxRecDepth 100000 in
set_option maxHeartbeats 4000000 in
theorem c_X8_as {l : Launch} (X : XT) (s0 : ST) (a1 : Int32) (a2 : Int32) (Q : Int32 → ST → Prop) (h : w_X8_as s0 a1 a2 Q) : MetI l yX8_as (wS yX8_as cX8_as 4 (some .int)) rm_X8_as X s0 [.ref (xa X 0), .int a1, .int a2] Q := by
  refine metG (own := RX8) (k := 1) (lv0 := [some (.ref (xa X 0)), some (.int a1), some (.int a2), none]) (by decide) rfl rfl rfl ?_
  intro p e s m args below meth c E hr
  refine r_aload_n (pc := 0) E dX8_as_0 rfl rfl ?_
  refine r_iload_n (pc := 1) E dX8_as_1 rfl rfl ?_
  refine afterI (pc := 2) E (fun H locs ls hP hS hl => runV (As := [.int a1]) (rest := []) E (c_X8_isStretch X _ _ _  h) ok_0 kc_8.1 ci_X8_isStretch q_370 rfl rfl rfl rfl dX8_as_2 hP hS hl) (fun r1 s1 h => ?_)
  refine r_if_eq (pc := 5) (tgt := 17) E dX8_as_5 (by decide) (fun c1 => ?_) (fun c1 => ?_)
  · have h := h.1 c1
    refine r_ldc (pc := 17) (v := (-1000001)) E q_359 dX8_as_17 ?_
    exact r_iret (pc := 19) E hr dX8_as_19 h
  · have h := h.2 c1
    refine r_iload_n (pc := 8) E dX8_as_8 rfl rfl ?_
    refine r_iconst (pc := 9) (v := 0) E dX8_as_9 (by decide) ?_
    refine r_iconst (pc := 10) (v := 3) E dX8_as_10 (by decide) ?_
    refine afterI (pc := 11) E (fun H locs ls hP hS hl => runS (As := [.int a2, .int 0, .int 3]) (rest := []) E (c_X8_within X _ _ _ _ _  h) cs_X8_within q_356 rfl rfl rfl rfl dX8_as_11 hP hS hl) (fun r2 s2 h => ?_)
    refine r_if_ne (pc := 14) (tgt := 20) E dX8_as_14 (by decide) (fun c2 => ?_) (fun c2 => ?_)
    · have h := h.1 c2
      refine r_aload_n (pc := 20) E dX8_as_20 rfl rfl ?_
      refine r_get (pc := 21) (j := 8) (v := .ref (xa X 1)) E ok_0 kc_8 rfl q_311 rfl dX8_as_21 ?_
      refine r_iload_n (pc := 24) E dX8_as_24 rfl rfl ?_
      refine r_aldSn (pc := 25) E h.1 dX8_as_25 (fun k1 ek1 ok1 => ?_)
      have h := h.2 k1 ek1
      refine r_astore_n (pc := 26) (lv' := [some (.ref (xa X 0)), some (.int a1), some (.int a2), some (.ref (xa X k1))]) E dX8_as_26 rfl rfl rfl rfl ?_
      refine r_aload_n (pc := 27) E dX8_as_27 rfl rfl ?_
      refine r_iload_n (pc := 28) E dX8_as_28 rfl rfl ?_
      refine afterI (pc := 29) E (fun H locs ls hP hS hl => runV (As := [.int a2]) (rest := []) E (c_X4_isOf X _ _ _ _ ok1 h) ok1 kc_4.1 ci_X4_isOf q_704 rfl rfl rfl rfl dX8_as_29 hP hS hl) (fun r3 s3 h => ?_)
      refine r_if_eq (pc := 32) (tgt := 42) E dX8_as_32 (by decide) (fun c3 => ?_) (fun c3 => ?_)
      · have h := h.1 c3
        refine r_ldc (pc := 42) (v := (-1000004)) E q_709 dX8_as_42 ?_
        exact r_iret (pc := 44) E hr dX8_as_44 h
      · have h := h.2 c3
        refine r_aload_n (pc := 35) E dX8_as_35 rfl rfl ?_
        refine r_get (pc := 36) (j := 0) E ok1 kc_4 rfl q_273 (svI (r0 (.inl ok1) rfl)) dX8_as_36 ?_
        refine r_goto (pc := 39) (tgt := 44) E dX8_as_39 (by decide) ?_
        exact r_iret (pc := 44) E hr dX8_as_44 h
    · have h := h.2 c2
      refine r_ldc (pc := 17) (v := (-1000001)) E q_359 dX8_as_17 ?_
      exact r_iret (pc := 19) E hr dX8_as_19 h

/-! ChairFront$Asks.leave -/
def rm_X0_leave : Room := { frames := 0, cells := 0, slots := 0, locals := 0 }
theorem ci_X0_leave : CI yX0_leave RX0 cX0_leave 2 none 1 := ⟨q_725, q_28, q_62, q_726, by decide +kernel⟩
def w_X0_leave (s0 : ST) (a1 : Int32) (Q : ST → Prop) : Prop := (((16 : Int32) ≤ (s0 21 1) → (Q s0)) ∧ (¬ ((16 : Int32) ≤ (s0 21 1)) → (vp_in (s0 21 1) 16 ∧ (∀ s1 : ST, s1 = up s0 22 (s0 21 1).toNatClampNeg a1 → (∀ s2 : ST, s2 = up s1 21 1 ((s1 21 1) + 1) → (Q s2))))))
set_option maxRecDepth 100000 in
set_option maxHeartbeats 4000000 in
theorem c_X0_leave {l : Launch} (X : XT) (s0 : ST) (a1 : Int32) (Q : ST → Prop) (h : w_X0_leave s0 a1 Q) : MetV l yX0_leave (wS yX0_leave cX0_leave 2 none) rm_X0_leave X s0 [.ref (xa X 21), .int a1] Q := by
  refine metG (own := RX0) (k := 0) (lv0 := [some (.ref (xa X 21)), some (.int a1)]) (by decide) rfl rfl rfl ?_
  intro p e s m args below meth c E hr
  refine r_aload_n (pc := 0) E dX0_leave_0 rfl rfl ?_
  refine r_get (pc := 1) (j := 1) E ok_21 kc_0 rfl q_255 (svI rfl) dX0_leave_1 ?_
  refine r_aload_n (pc := 4) E dX0_leave_4 rfl rfl ?_
  refine r_get (pc := 5) (j := 0) (v := .ref (xa X 22)) E ok_21 kc_0 rfl q_253 rfl dX0_leave_5 ?_
  refine r_alen (pc := 8) (v := 16) E (by decide) rfl rfl rfl dX0_leave_8 ?_
  refine r_icmp_ge (pc := 9) (tgt := 32) E dX0_leave_9 (by decide) (fun c1 => ?_) (fun c1 => ?_)
  · have h := h.1 c1
    exact r_vret (pc := 32) E hr dX0_leave_32 h
  · have h := h.2 c1
    refine r_aload_n (pc := 12) E dX0_leave_12 rfl rfl ?_
    refine r_get (pc := 13) (j := 0) (v := .ref (xa X 22)) E ok_21 kc_0 rfl q_253 rfl dX0_leave_13 ?_
    refine r_aload_n (pc := 16) E dX0_leave_16 rfl rfl ?_
    refine r_get (pc := 17) (j := 1) E ok_21 kc_0 rfl q_255 (svI rfl) dX0_leave_17 ?_
    refine r_iload_n (pc := 20) E dX0_leave_20 rfl rfl ?_
    refine r_iast (pc := 21) (n := 16) E ok_22 rfl h.1 dX0_leave_21 (fun s1 es1 => ?_)
    have h := h.2 s1 es1
    refine r_aload_n (pc := 22) E dX0_leave_22 rfl rfl ?_
    refine r_dup (pc := 23) E dX0_leave_23 rfl ?_
    refine r_get (pc := 24) (j := 1) E ok_21 kc_0 rfl q_255 (svI rfl) dX0_leave_24 ?_
    refine r_iconst (pc := 27) (v := 1) E dX0_leave_27 (by decide) ?_
    refine r_iadd (pc := 28) E dX0_leave_28 ?_
    refine r_put (pc := 29) (j := 1) E ok_21 kc_0 rfl q_255 rfl rfl rfl dX0_leave_29 (fun s2 es2 => ?_)
    have h := h s2 es2
    exact r_vret (pc := 32) E hr dX0_leave_32 h

/-! ChairFront$Asks.worthLent -/
def rm_X0_worthLent : Room := { frames := 1, cells := 0, slots := 0, locals := 21 }
theorem ci_X0_worthLent : CI yX0_worthLent RX0 cX0_worthLent 2 (some .int) 1 := ⟨q_733, q_30, q_62, q_734, by decide +kernel⟩
def w_X0_worthLent (s0 : ST) (a1 : Nat) (Q : Int32 → ST → Prop) : Prop := w_X0_leave s0 10 (fun s1 => Q (s1 a1 2) s1)
set_option maxRecDepth 100000 in
set_option maxHeartbeats 4000000 in
theorem c_X0_worthLent {l : Launch} (X : XT) (s0 : ST) (a1 : Nat) (Q : Int32 → ST → Prop) (ha1 : okc 4 a1) (h : w_X0_worthLent s0 a1 Q) : MetI l yX0_worthLent (wS yX0_worthLent cX0_worthLent 2 (some .int)) rm_X0_worthLent X s0 [.ref (xa X 21), .ref (xa X a1)] Q := by
  refine metG (own := RX0) (k := 0) (lv0 := [some (.ref (xa X 21)), some (.ref (xa X a1))]) (by decide) rfl rfl rfl ?_
  intro p e s m args below meth c E hr
  refine r_aload_n (pc := 0) E dX0_worthLent_0 rfl rfl ?_
  refine r_bipush (pc := 1) (v := 10) E dX0_worthLent_1 (by decide) ?_
  refine afterV (pc := 3) E (fun H locs ls hP hS hl => runV (As := [.int 10]) (rest := []) E (c_X0_leave X _ _ _  h) ok_21 kc_0.1 ci_X0_leave q_723 rfl rfl rfl rfl dX0_worthLent_3 hP hS hl) (fun s1 h => ?_)
  refine r_aload_n (pc := 6) E dX0_worthLent_6 rfl rfl ?_
  refine r_get (pc := 7) (j := 2) E ha1 kc_4 rfl q_278 (svI (r0 (.inl ha1) rfl)) dX0_worthLent_7 ?_
  exact r_iret (pc := 10) E hr dX0_worthLent_10 h

/-! ChairFront$Asks.worthOfSold -/
def rm_X0_worthOfSold : Room := { frames := 2, cells := 0, slots := 0, locals := 42 }
theorem ci_X0_worthOfSold : CI yX0_worthOfSold RX0 cX0_worthOfSold 2 (some .int) 1 := ⟨q_729, q_29, q_62, q_730, by decide +kernel⟩
def w_X0_worthOfSold (s0 : ST) (a1 : Nat) (Q : Int32 → ST → Prop) : Prop := w_X0_leave s0 11 (fun s1 => w_X0_worthLent s1 a1 (fun r2 s2 => Q (r2 + 1000) s2))
set_option maxRecDepth 100000 in
set_option maxHeartbeats 4000000 in
theorem c_X0_worthOfSold {l : Launch} (X : XT) (s0 : ST) (a1 : Nat) (Q : Int32 → ST → Prop) (ha1 : okc 4 a1) (h : w_X0_worthOfSold s0 a1 Q) : MetI l yX0_worthOfSold (wS yX0_worthOfSold cX0_worthOfSold 2 (some .int)) rm_X0_worthOfSold X s0 [.ref (xa X 21), .ref (xa X a1)] Q := by
  refine metG (own := RX0) (k := 0) (lv0 := [some (.ref (xa X 21)), some (.ref (xa X a1))]) (by decide) rfl rfl rfl ?_
  intro p e s m args below meth c E hr
  refine r_aload_n (pc := 0) E dX0_worthOfSold_0 rfl rfl ?_
  refine r_bipush (pc := 1) (v := 11) E dX0_worthOfSold_1 (by decide) ?_
  refine afterV (pc := 3) E (fun H locs ls hP hS hl => runV (As := [.int 11]) (rest := []) E (c_X0_leave X _ _ _  h) ok_21 kc_0.1 ci_X0_leave q_723 rfl rfl rfl rfl dX0_worthOfSold_3 hP hS hl) (fun s1 h => ?_)
  refine r_aload_n (pc := 6) E dX0_worthOfSold_6 rfl rfl ?_
  refine r_aload_n (pc := 7) E dX0_worthOfSold_7 rfl rfl ?_
  refine afterI (pc := 8) E (fun H locs ls hP hS hl => runV (As := [.ref (xa X a1)]) (rest := []) E (c_X0_worthLent X _ _ _ ha1 h) ok_21 kc_0.1 ci_X0_worthLent q_731 rfl rfl rfl rfl dX0_worthOfSold_8 hP hS hl) (fun r2 s2 h => ?_)
  refine r_sipush (pc := 11) (v := 1000) E dX0_worthOfSold_11 (by decide) ?_
  refine r_iadd (pc := 14) E dX0_worthOfSold_14 ?_
  exact r_iret (pc := 15) E hr dX0_worthOfSold_15 h

/-! ChairFront$Asks.markLent -/
def rm_X0_markLent : Room := { frames := 1, cells := 0, slots := 0, locals := 21 }
theorem ci_X0_markLent : CI yX0_markLent RX0 cX0_markLent 2 (some .int) 1 := ⟨q_741, q_32, q_62, q_742, by decide +kernel⟩
def w_X0_markLent (s0 : ST) (a1 : Nat) (Q : Int32 → ST → Prop) : Prop := w_X0_leave s0 20 (fun s1 => Q (s1 a1 1) s1)
set_option maxRecDepth 100000 in
set_option maxHeartbeats 4000000 in
theorem c_X0_markLent {l : Launch} (X : XT) (s0 : ST) (a1 : Nat) (Q : Int32 → ST → Prop) (ha1 : okc 4 a1) (h : w_X0_markLent s0 a1 Q) : MetI l yX0_markLent (wS yX0_markLent cX0_markLent 2 (some .int)) rm_X0_markLent X s0 [.ref (xa X 21), .ref (xa X a1)] Q := by
  refine metG (own := RX0) (k := 0) (lv0 := [some (.ref (xa X 21)), some (.ref (xa X a1))]) (by decide) rfl rfl rfl ?_
  intro p e s m args below meth c E hr
  refine r_aload_n (pc := 0) E dX0_markLent_0 rfl rfl ?_
  refine r_bipush (pc := 1) (v := 20) E dX0_markLent_1 (by decide) ?_
  refine afterV (pc := 3) E (fun H locs ls hP hS hl => runV (As := [.int 20]) (rest := []) E (c_X0_leave X _ _ _  h) ok_21 kc_0.1 ci_X0_leave q_723 rfl rfl rfl rfl dX0_markLent_3 hP hS hl) (fun s1 h => ?_)
  refine r_aload_n (pc := 6) E dX0_markLent_6 rfl rfl ?_
  refine r_get (pc := 7) (j := 1) E ha1 kc_4 rfl q_276 (svI (r0 (.inl ha1) rfl)) dX0_markLent_7 ?_
  exact r_iret (pc := 10) E hr dX0_markLent_10 h

/-! ChairFront$Asks.markOfCrowd -/
def rm_X0_markOfCrowd : Room := { frames := 2, cells := 0, slots := 0, locals := 42 }
theorem ci_X0_markOfCrowd : CI yX0_markOfCrowd RX0 cX0_markOfCrowd 2 (some .int) 1 := ⟨q_737, q_31, q_62, q_738, by decide +kernel⟩
def w_X0_markOfCrowd (s0 : ST) (a1 : Nat) (Q : Int32 → ST → Prop) : Prop := w_X0_leave s0 21 (fun s1 => w_X0_markLent s1 a1 (fun r2 s2 => Q (r2 + (s2 a1 5)) s2))
set_option maxRecDepth 100000 in
set_option maxHeartbeats 4000000 in
theorem c_X0_markOfCrowd {l : Launch} (X : XT) (s0 : ST) (a1 : Nat) (Q : Int32 → ST → Prop) (ha1 : okc 4 a1) (h : w_X0_markOfCrowd s0 a1 Q) : MetI l yX0_markOfCrowd (wS yX0_markOfCrowd cX0_markOfCrowd 2 (some .int)) rm_X0_markOfCrowd X s0 [.ref (xa X 21), .ref (xa X a1)] Q := by
  refine metG (own := RX0) (k := 0) (lv0 := [some (.ref (xa X 21)), some (.ref (xa X a1))]) (by decide) rfl rfl rfl ?_
  intro p e s m args below meth c E hr
  refine r_aload_n (pc := 0) E dX0_markOfCrowd_0 rfl rfl ?_
  refine r_bipush (pc := 1) (v := 21) E dX0_markOfCrowd_1 (by decide) ?_
  refine afterV (pc := 3) E (fun H locs ls hP hS hl => runV (As := [.int 21]) (rest := []) E (c_X0_leave X _ _ _  h) ok_21 kc_0.1 ci_X0_leave q_723 rfl rfl rfl rfl dX0_markOfCrowd_3 hP hS hl) (fun s1 h => ?_)
  refine r_aload_n (pc := 6) E dX0_markOfCrowd_6 rfl rfl ?_
  refine r_aload_n (pc := 7) E dX0_markOfCrowd_7 rfl rfl ?_
  refine afterI (pc := 8) E (fun H locs ls hP hS hl => runV (As := [.ref (xa X a1)]) (rest := []) E (c_X0_markLent X _ _ _ ha1 h) ok_21 kc_0.1 ci_X0_markLent q_739 rfl rfl rfl rfl dX0_markOfCrowd_8 hP hS hl) (fun r2 s2 h => ?_)
  refine r_aload_n (pc := 11) E dX0_markOfCrowd_11 rfl rfl ?_
  refine r_get (pc := 12) (j := 5) E ha1 kc_4 rfl q_285 (svI (r0 (.inl ha1) rfl)) dX0_markOfCrowd_12 ?_
  refine r_iadd (pc := 15) E dX0_markOfCrowd_15 ?_
  exact r_iret (pc := 16) E hr dX0_markOfCrowd_16 h

/-! ChairFront$Asks.worthOfCrowd -/
def rm_X0_worthOfCrowd : Room := { frames := 3, cells := 0, slots := 0, locals := 63 }
theorem ci_X0_worthOfCrowd : CI yX0_worthOfCrowd RX0 cX0_worthOfCrowd 3 (some .int) 1 := ⟨q_721, q_27, q_62, q_722, by decide +kernel⟩
def w_X0_worthOfCrowd (s0 : ST) (a1 : Nat) (Q : Int32 → ST → Prop) : Prop := w_X0_leave s0 12 (fun s1 => w_X0_worthOfSold s1 a1 (fun r2 s2 => w_X0_markOfCrowd s2 a1 (fun r3 s3 => Q (r2 + r3) s3)))
set_option maxRecDepth 100000 in
set_option maxHeartbeats 4000000 in
theorem c_X0_worthOfCrowd {l : Launch} (X : XT) (s0 : ST) (a1 : Nat) (Q : Int32 → ST → Prop) (ha1 : okc 4 a1) (h : w_X0_worthOfCrowd s0 a1 Q) : MetI l yX0_worthOfCrowd (wS yX0_worthOfCrowd cX0_worthOfCrowd 3 (some .int)) rm_X0_worthOfCrowd X s0 [.ref (xa X 21), .ref (xa X a1)] Q := by
  refine metG (own := RX0) (k := 1) (lv0 := [some (.ref (xa X 21)), some (.ref (xa X a1)), none]) (by decide) rfl rfl rfl ?_
  intro p e s m args below meth c E hr
  refine r_aload_n (pc := 0) E dX0_worthOfCrowd_0 rfl rfl ?_
  refine r_bipush (pc := 1) (v := 12) E dX0_worthOfCrowd_1 (by decide) ?_
  refine afterV (pc := 3) E (fun H locs ls hP hS hl => runV (As := [.int 12]) (rest := []) E (c_X0_leave X _ _ _  h) ok_21 kc_0.1 ci_X0_leave q_723 rfl rfl rfl rfl dX0_worthOfCrowd_3 hP hS hl) (fun s1 h => ?_)
  refine r_aload_n (pc := 6) E dX0_worthOfCrowd_6 rfl rfl ?_
  refine r_aload_n (pc := 7) E dX0_worthOfCrowd_7 rfl rfl ?_
  refine afterI (pc := 8) E (fun H locs ls hP hS hl => runV (As := [.ref (xa X a1)]) (rest := []) E (c_X0_worthOfSold X _ _ _ ha1 h) ok_21 kc_0.1 ci_X0_worthOfSold q_727 rfl rfl rfl rfl dX0_worthOfCrowd_8 hP hS hl) (fun r2 s2 h => ?_)
  refine r_istore_n (pc := 11) (lv' := [some (.ref (xa X 21)), some (.ref (xa X a1)), some (.int r2)]) E dX0_worthOfCrowd_11 rfl rfl rfl rfl ?_
  refine r_iload_n (pc := 12) E dX0_worthOfCrowd_12 rfl rfl ?_
  refine r_aload_n (pc := 13) E dX0_worthOfCrowd_13 rfl rfl ?_
  refine r_aload_n (pc := 14) E dX0_worthOfCrowd_14 rfl rfl ?_
  refine afterI (pc := 15) E (fun H locs ls hP hS hl => runV (As := [.ref (xa X a1)]) (rest := [.int r2]) E (c_X0_markOfCrowd X _ _ _ ha1 h) ok_21 kc_0.1 ci_X0_markOfCrowd q_735 rfl rfl rfl rfl dX0_worthOfCrowd_15 hP hS hl) (fun r3 s3 h => ?_)
  refine r_iadd (pc := 18) E dX0_worthOfCrowd_18 ?_
  exact r_iret (pc := 19) E hr dX0_worthOfCrowd_19 h

/-! ChairFront$Asks.worthOfBare -/
def rm_X0_worthOfBare : Room := { frames := 1, cells := 0, slots := 0, locals := 21 }
theorem ci_X0_worthOfBare : CI yX0_worthOfBare RX0 cX0_worthOfBare 2 (some .int) 1 := ⟨q_745, q_33, q_62, q_746, by decide +kernel⟩
def w_X0_worthOfBare (s0 : ST) (a1 : Nat) (Q : Int32 → ST → Prop) : Prop := w_X0_leave s0 13 (fun s1 => Q (s1 a1 0) s1)
set_option maxRecDepth 100000 in
set_option maxHeartbeats 4000000 in
theorem c_X0_worthOfBare {l : Launch} (X : XT) (s0 : ST) (a1 : Nat) (Q : Int32 → ST → Prop) (ha1 : okc 4 a1) (h : w_X0_worthOfBare s0 a1 Q) : MetI l yX0_worthOfBare (wS yX0_worthOfBare cX0_worthOfBare 2 (some .int)) rm_X0_worthOfBare X s0 [.ref (xa X 21), .ref (xa X a1)] Q := by
  refine metG (own := RX0) (k := 0) (lv0 := [some (.ref (xa X 21)), some (.ref (xa X a1))]) (by decide) rfl rfl rfl ?_
  intro p e s m args below meth c E hr
  refine r_aload_n (pc := 0) E dX0_worthOfBare_0 rfl rfl ?_
  refine r_bipush (pc := 1) (v := 13) E dX0_worthOfBare_1 (by decide) ?_
  refine afterV (pc := 3) E (fun H locs ls hP hS hl => runV (As := [.int 13]) (rest := []) E (c_X0_leave X _ _ _  h) ok_21 kc_0.1 ci_X0_leave q_723 rfl rfl rfl rfl dX0_worthOfBare_3 hP hS hl) (fun s1 h => ?_)
  refine r_aload_n (pc := 6) E dX0_worthOfBare_6 rfl rfl ?_
  refine r_get (pc := 7) (j := 0) E ha1 kc_4 rfl q_274 (svI (r0 (.inl ha1) rfl)) dX0_worthOfBare_7 ?_
  exact r_iret (pc := 10) E hr dX0_worthOfBare_10 h

/-! ChairFront$Asks.worthOf -/
def rm_X0_worthOf : Room := { frames := 4, cells := 0, slots := 0, locals := 85 }
theorem ci_X0_worthOf : CI yX0_worthOf RX0 cX0_worthOf 2 (some .int) 1 := ⟨q_715, q_716, q_62, q_717, by decide +kernel⟩
def w_X0_worthOf (s0 : ST) (a1 : Nat) (Q : Int32 → ST → Prop) : Prop := w_X4_toldKind s0 a1 (fun r1 s1 => ((r1 = 1 → (w_X0_worthOfSold s1 a1 (fun r2 s2 => Q r2 s2))) ∧ (¬ r1 = 1 → ((r1 = 2 → (w_X0_worthOfCrowd s1 a1 (fun r3 s3 => Q r3 s3))) ∧ (¬ r1 = 2 → ((r1 = 3 → (w_X0_worthOfBare s1 a1 (fun r4 s4 => Q r4 s4))) ∧ (¬ r1 = 3 → (w_X0_worthLent s1 a1 (fun r5 s5 => Q r5 s5)))))))))
set_option maxRecDepth 100000 in
set_option maxHeartbeats 4000000 in
theorem c_X0_worthOf {l : Launch} (X : XT) (s0 : ST) (a1 : Nat) (Q : Int32 → ST → Prop) (ha1 : okc 4 a1) (h : w_X0_worthOf s0 a1 Q) : MetI l yX0_worthOf (wS yX0_worthOf cX0_worthOf 2 (some .int)) rm_X0_worthOf X s0 [.ref (xa X 21), .ref (xa X a1)] Q := by
  refine metG (own := RX0) (k := 0) (lv0 := [some (.ref (xa X 21)), some (.ref (xa X a1))]) (by decide) rfl rfl rfl ?_
  intro p e s m args below meth c E hr
  refine r_aload_n (pc := 0) E dX0_worthOf_0 rfl rfl ?_
  refine afterI (pc := 1) E (fun H locs ls hP hS hl => runV (As := []) (rest := []) E (c_X4_toldKind X _ _ _ ha1 h) ha1 kc_4.1 ci_X4_toldKind q_718 rfl rfl rfl rfl dX0_worthOf_1 hP hS hl) (fun r1 s1 h => ?_)
  by_cases c1 : r1 = 1
  · have h := h.1 c1
    refine r_tabIn (pc := 4) (tgt := 38) (off := 34) (v := 1) E c1 dX0_worthOf_4 (by decide) (by decide) (by decide) (by decide) ?_
    refine r_aload_n (pc := 38) E dX0_worthOf_38 rfl rfl ?_
    refine r_aload_n (pc := 39) E dX0_worthOf_39 rfl rfl ?_
    refine afterI (pc := 40) E (fun H locs ls hP hS hl => runV (As := [.ref (xa X a1)]) (rest := []) E (c_X0_worthOfSold X _ _ _ ha1 h) ok_21 kc_0.1 ci_X0_worthOfSold q_727 rfl rfl rfl rfl dX0_worthOf_40 hP hS hl) (fun r2 s2 h => ?_)
    exact r_iret (pc := 43) E hr dX0_worthOf_43 h
  have h := h.2 c1
  by_cases c2 : r1 = 2
  · have h := h.1 c2
    refine r_tabIn (pc := 4) (tgt := 32) (off := 28) (v := 2) E c2 dX0_worthOf_4 (by decide) (by decide) (by decide) (by decide) ?_
    refine r_aload_n (pc := 32) E dX0_worthOf_32 rfl rfl ?_
    refine r_aload_n (pc := 33) E dX0_worthOf_33 rfl rfl ?_
    refine afterI (pc := 34) E (fun H locs ls hP hS hl => runV (As := [.ref (xa X a1)]) (rest := []) E (c_X0_worthOfCrowd X _ _ _ ha1 h) ok_21 kc_0.1 ci_X0_worthOfCrowd q_719 rfl rfl rfl rfl dX0_worthOf_34 hP hS hl) (fun r3 s3 h => ?_)
    exact r_iret (pc := 37) E hr dX0_worthOf_37 h
  have h := h.2 c2
  by_cases c3 : r1 = 3
  · have h := h.1 c3
    refine r_tabIn (pc := 4) (tgt := 44) (off := 40) (v := 3) E c3 dX0_worthOf_4 (by decide) (by decide) (by decide) (by decide) ?_
    refine r_aload_n (pc := 44) E dX0_worthOf_44 rfl rfl ?_
    refine r_aload_n (pc := 45) E dX0_worthOf_45 rfl rfl ?_
    refine afterI (pc := 46) E (fun H locs ls hP hS hl => runV (As := [.ref (xa X a1)]) (rest := []) E (c_X0_worthOfBare X _ _ _ ha1 h) ok_21 kc_0.1 ci_X0_worthOfBare q_743 rfl rfl rfl rfl dX0_worthOf_46 hP hS hl) (fun r4 s4 h => ?_)
    exact r_iret (pc := 49) E hr dX0_worthOf_49 h
  have h := h.2 c3
  refine r_tabOut (pc := 4) (tgt := 50) E 1 3 (by decide) (fun j hj => match j, hj with | 0, _ => c1 | 1, _ => c2 | 2, _ => c3 | j + 3, hj => absurd hj (by omega)) dX0_worthOf_4 (by decide) (by decide) (by decide) ?_
  refine r_aload_n (pc := 50) E dX0_worthOf_50 rfl rfl ?_
  refine r_aload_n (pc := 51) E dX0_worthOf_51 rfl rfl ?_
  refine afterI (pc := 52) E (fun H locs ls hP hS hl => runV (As := [.ref (xa X a1)]) (rest := []) E (c_X0_worthLent X _ _ _ ha1 h) ok_21 kc_0.1 ci_X0_worthLent q_731 rfl rfl rfl rfl dX0_worthOf_52 hP hS hl) (fun r5 s5 h => ?_)
  exact r_iret (pc := 55) E hr dX0_worthOf_55 h

/-! ChairFront$Asks.markOfBare -/
def rm_X0_markOfBare : Room := { frames := 2, cells := 0, slots := 0, locals := 42 }
theorem ci_X0_markOfBare : CI yX0_markOfBare RX0 cX0_markOfBare 3 (some .int) 1 := ⟨q_753, q_34, q_62, q_754, by decide +kernel⟩
def w_X0_markOfBare (s0 : ST) (a1 : Nat) (Q : Int32 → ST → Prop) : Prop := w_X0_leave s0 22 (fun s1 => w_X0_markLent s1 a1 (fun r2 s2 => w_X0_worthOfBare s2 a1 (fun r3 s3 => Q (r2 + r3) s3)))
set_option maxRecDepth 100000 in
set_option maxHeartbeats 4000000 in
theorem c_X0_markOfBare {l : Launch} (X : XT) (s0 : ST) (a1 : Nat) (Q : Int32 → ST → Prop) (ha1 : okc 4 a1) (h : w_X0_markOfBare s0 a1 Q) : MetI l yX0_markOfBare (wS yX0_markOfBare cX0_markOfBare 3 (some .int)) rm_X0_markOfBare X s0 [.ref (xa X 21), .ref (xa X a1)] Q := by
  refine metG (own := RX0) (k := 1) (lv0 := [some (.ref (xa X 21)), some (.ref (xa X a1)), none]) (by decide) rfl rfl rfl ?_
  intro p e s m args below meth c E hr
  refine r_aload_n (pc := 0) E dX0_markOfBare_0 rfl rfl ?_
  refine r_bipush (pc := 1) (v := 22) E dX0_markOfBare_1 (by decide) ?_
  refine afterV (pc := 3) E (fun H locs ls hP hS hl => runV (As := [.int 22]) (rest := []) E (c_X0_leave X _ _ _  h) ok_21 kc_0.1 ci_X0_leave q_723 rfl rfl rfl rfl dX0_markOfBare_3 hP hS hl) (fun s1 h => ?_)
  refine r_aload_n (pc := 6) E dX0_markOfBare_6 rfl rfl ?_
  refine r_aload_n (pc := 7) E dX0_markOfBare_7 rfl rfl ?_
  refine afterI (pc := 8) E (fun H locs ls hP hS hl => runV (As := [.ref (xa X a1)]) (rest := []) E (c_X0_markLent X _ _ _ ha1 h) ok_21 kc_0.1 ci_X0_markLent q_739 rfl rfl rfl rfl dX0_markOfBare_8 hP hS hl) (fun r2 s2 h => ?_)
  refine r_istore_n (pc := 11) (lv' := [some (.ref (xa X 21)), some (.ref (xa X a1)), some (.int r2)]) E dX0_markOfBare_11 rfl rfl rfl rfl ?_
  refine r_iload_n (pc := 12) E dX0_markOfBare_12 rfl rfl ?_
  refine r_aload_n (pc := 13) E dX0_markOfBare_13 rfl rfl ?_
  refine r_aload_n (pc := 14) E dX0_markOfBare_14 rfl rfl ?_
  refine afterI (pc := 15) E (fun H locs ls hP hS hl => runV (As := [.ref (xa X a1)]) (rest := [.int r2]) E (c_X0_worthOfBare X _ _ _ ha1 h) ok_21 kc_0.1 ci_X0_worthOfBare q_743 rfl rfl rfl rfl dX0_markOfBare_15 hP hS hl) (fun r3 s3 h => ?_)
  refine r_iadd (pc := 18) E dX0_markOfBare_18 ?_
  exact r_iret (pc := 19) E hr dX0_markOfBare_19 h

/-! ChairFront$Asks.markOf -/
def rm_X0_markOf : Room := { frames := 3, cells := 0, slots := 0, locals := 64 }
theorem ci_X0_markOf : CI yX0_markOf RX0 cX0_markOf 2 (some .int) 1 := ⟨q_748, q_749, q_62, q_750, by decide +kernel⟩
def w_X0_markOf (s0 : ST) (a1 : Nat) (Q : Int32 → ST → Prop) : Prop := w_X4_toldKind s0 a1 (fun r1 s1 => ((r1 = 2 → (w_X0_markOfCrowd s1 a1 (fun r2 s2 => Q r2 s2))) ∧ (¬ r1 = 2 → ((r1 = 3 → (w_X0_markOfBare s1 a1 (fun r3 s3 => Q r3 s3))) ∧ (¬ r1 = 3 → (w_X0_markLent s1 a1 (fun r4 s4 => Q r4 s4)))))))
set_option maxRecDepth 100000 in
set_option maxHeartbeats 4000000 in
theorem c_X0_markOf {l : Launch} (X : XT) (s0 : ST) (a1 : Nat) (Q : Int32 → ST → Prop) (ha1 : okc 4 a1) (h : w_X0_markOf s0 a1 Q) : MetI l yX0_markOf (wS yX0_markOf cX0_markOf 2 (some .int)) rm_X0_markOf X s0 [.ref (xa X 21), .ref (xa X a1)] Q := by
  refine metG (own := RX0) (k := 0) (lv0 := [some (.ref (xa X 21)), some (.ref (xa X a1))]) (by decide) rfl rfl rfl ?_
  intro p e s m args below meth c E hr
  refine r_aload_n (pc := 0) E dX0_markOf_0 rfl rfl ?_
  refine afterI (pc := 1) E (fun H locs ls hP hS hl => runV (As := []) (rest := []) E (c_X4_toldKind X _ _ _ ha1 h) ha1 kc_4.1 ci_X4_toldKind q_718 rfl rfl rfl rfl dX0_markOf_1 hP hS hl) (fun r1 s1 h => ?_)
  by_cases c1 : r1 = 2
  · have h := h.1 c1
    refine r_lookIn (pc := 4) (tgt := 32) (off := 28) (v := 2) E c1 dX0_markOf_4 (by decide) (by decide) (by decide) ?_
    refine r_aload_n (pc := 32) E dX0_markOf_32 rfl rfl ?_
    refine r_aload_n (pc := 33) E dX0_markOf_33 rfl rfl ?_
    refine afterI (pc := 34) E (fun H locs ls hP hS hl => runV (As := [.ref (xa X a1)]) (rest := []) E (c_X0_markOfCrowd X _ _ _ ha1 h) ok_21 kc_0.1 ci_X0_markOfCrowd q_735 rfl rfl rfl rfl dX0_markOf_34 hP hS hl) (fun r2 s2 h => ?_)
    exact r_iret (pc := 37) E hr dX0_markOf_37 h
  have h := h.2 c1
  by_cases c2 : r1 = 3
  · have h := h.1 c2
    refine r_lookIn (pc := 4) (tgt := 38) (off := 34) (v := 3) E c2 dX0_markOf_4 (by decide) (by decide) (by decide) ?_
    refine r_aload_n (pc := 38) E dX0_markOf_38 rfl rfl ?_
    refine r_aload_n (pc := 39) E dX0_markOf_39 rfl rfl ?_
    refine afterI (pc := 40) E (fun H locs ls hP hS hl => runV (As := [.ref (xa X a1)]) (rest := []) E (c_X0_markOfBare X _ _ _ ha1 h) ok_21 kc_0.1 ci_X0_markOfBare q_751 rfl rfl rfl rfl dX0_markOf_40 hP hS hl) (fun r3 s3 h => ?_)
    exact r_iret (pc := 43) E hr dX0_markOf_43 h
  have h := h.2 c2
  refine r_lookOut (pc := 4) (tgt := 44) E dX0_markOf_4 (by decide) (by rw [lv_osw c1 (by decide)]; rw [lv_osw c2 (by decide)]; rfl) (by decide) ?_
  refine r_aload_n (pc := 44) E dX0_markOf_44 rfl rfl ?_
  refine r_aload_n (pc := 45) E dX0_markOf_45 rfl rfl ?_
  refine afterI (pc := 46) E (fun H locs ls hP hS hl => runV (As := [.ref (xa X a1)]) (rest := []) E (c_X0_markLent X _ _ _ ha1 h) ok_21 kc_0.1 ci_X0_markLent q_739 rfl rfl rfl rfl dX0_markOf_46 hP hS hl) (fun r4 s4 h => ?_)
  exact r_iret (pc := 49) E hr dX0_markOf_49 h

/-! ChairFront.ask -/
def rm_X8_ask : Room := { frames := 5, cells := 0, slots := 0, locals := 106 }
theorem ci_X8_ask : CI yX8_ask RX8 cX8_ask 4 (some .int) 2 := ⟨q_711, q_712, q_55, q_713, by decide +kernel⟩
def w_X8_ask (s0 : ST) (a1 : Int32) (a2 : Int32) (Q : Int32 → ST → Prop) : Prop := w_X8_isStretch s0 a1 (fun r1 s1 => ((r1 = 0 → (Q (-1000001) s1)) ∧ (¬ (r1 = 0) → (w_X8_within s1 a2 0 1 (fun r2 s2 => ((¬ r2 = 0 → (∀ s3 : ST, s3 = up s2 21 1 0 → (vp_in a1 10 ∧ (∀ k1 : Nat, k1 = 23 + a1.toNatClampNeg → (((¬ a2 = 0 → (w_X0_markOf s3 k1 (fun r3 s4 => Q r3 s4))) ∧ (a2 = 0 → (w_X0_worthOf s3 k1 (fun r4 s5 => Q r4 s5))))))))) ∧ (r2 = 0 → (Q (-1000001) s2))))))))
set_option maxRecDepth 100000 in
set_option maxHeartbeats 4000000 in
theorem c_X8_ask {l : Launch} (X : XT) (s0 : ST) (a1 : Int32) (a2 : Int32) (Q : Int32 → ST → Prop) (h : w_X8_ask s0 a1 a2 Q) : MetI l yX8_ask (wS yX8_ask cX8_ask 4 (some .int)) rm_X8_ask X s0 [.ref (xa X 0), .int a1, .int a2] Q := by
  refine metG (own := RX8) (k := 1) (lv0 := [some (.ref (xa X 0)), some (.int a1), some (.int a2), none]) (by decide) rfl rfl rfl ?_
  intro p e s m args below meth c E hr
  refine r_aload_n (pc := 0) E dX8_ask_0 rfl rfl ?_
  refine r_iload_n (pc := 1) E dX8_ask_1 rfl rfl ?_
  refine afterI (pc := 2) E (fun H locs ls hP hS hl => runV (As := [.int a1]) (rest := []) E (c_X8_isStretch X _ _ _  h) ok_0 kc_8.1 ci_X8_isStretch q_370 rfl rfl rfl rfl dX8_ask_2 hP hS hl) (fun r1 s1 h => ?_)
  refine r_if_eq (pc := 5) (tgt := 17) E dX8_ask_5 (by decide) (fun c1 => ?_) (fun c1 => ?_)
  · have h := h.1 c1
    refine r_ldc (pc := 17) (v := (-1000001)) E q_359 dX8_ask_17 ?_
    exact r_iret (pc := 19) E hr dX8_ask_19 h
  · have h := h.2 c1
    refine r_iload_n (pc := 8) E dX8_ask_8 rfl rfl ?_
    refine r_iconst (pc := 9) (v := 0) E dX8_ask_9 (by decide) ?_
    refine r_iconst (pc := 10) (v := 1) E dX8_ask_10 (by decide) ?_
    refine afterI (pc := 11) E (fun H locs ls hP hS hl => runS (As := [.int a2, .int 0, .int 1]) (rest := []) E (c_X8_within X _ _ _ _ _  h) cs_X8_within q_356 rfl rfl rfl rfl dX8_ask_11 hP hS hl) (fun r2 s2 h => ?_)
    refine r_if_ne (pc := 14) (tgt := 20) E dX8_ask_14 (by decide) (fun c2 => ?_) (fun c2 => ?_)
    · have h := h.1 c2
      refine r_aload_n (pc := 20) E dX8_ask_20 rfl rfl ?_
      refine r_get (pc := 21) (j := 15) (v := .ref (xa X 21)) E ok_0 kc_8 rfl q_318 rfl dX8_ask_21 ?_
      refine r_iconst (pc := 24) (v := 0) E dX8_ask_24 (by decide) ?_
      refine r_put (pc := 25) (j := 1) E ok_21 kc_0 rfl q_256 rfl rfl rfl dX8_ask_25 (fun s3 es3 => ?_)
      have h := h s3 es3
      refine r_aload_n (pc := 28) E dX8_ask_28 rfl rfl ?_
      refine r_get (pc := 29) (j := 8) (v := .ref (xa X 1)) E ok_0 kc_8 rfl q_311 rfl dX8_ask_29 ?_
      refine r_iload_n (pc := 32) E dX8_ask_32 rfl rfl ?_
      refine r_aldSn (pc := 33) E h.1 dX8_ask_33 (fun k1 ek1 ok1 => ?_)
      have h := h.2 k1 ek1
      refine r_astore_n (pc := 34) (lv' := [some (.ref (xa X 0)), some (.int a1), some (.int a2), some (.ref (xa X k1))]) E dX8_ask_34 rfl rfl rfl rfl ?_
      refine r_iload_n (pc := 35) E dX8_ask_35 rfl rfl ?_
      refine r_if_ne (pc := 36) (tgt := 50) E dX8_ask_36 (by decide) (fun c3 => ?_) (fun c3 => ?_)
      · have h := h.1 c3
        refine r_aload_n (pc := 50) E dX8_ask_50 rfl rfl ?_
        refine r_get (pc := 51) (j := 15) (v := .ref (xa X 21)) E ok_0 kc_8 rfl q_318 rfl dX8_ask_51 ?_
        refine r_aload_n (pc := 54) E dX8_ask_54 rfl rfl ?_
        refine afterI (pc := 55) E (fun H locs ls hP hS hl => runV (As := [.ref (xa X k1)]) (rest := []) E (c_X0_markOf X _ _ _ ok1 h) ok_21 kc_0.1 ci_X0_markOf q_747 rfl rfl rfl rfl dX8_ask_55 hP hS hl) (fun r3 s4 h => ?_)
        exact r_iret (pc := 58) E hr dX8_ask_58 h
      · have h := h.2 c3
        refine r_aload_n (pc := 39) E dX8_ask_39 rfl rfl ?_
        refine r_get (pc := 40) (j := 15) (v := .ref (xa X 21)) E ok_0 kc_8 rfl q_318 rfl dX8_ask_40 ?_
        refine r_aload_n (pc := 43) E dX8_ask_43 rfl rfl ?_
        refine afterI (pc := 44) E (fun H locs ls hP hS hl => runV (As := [.ref (xa X k1)]) (rest := []) E (c_X0_worthOf X _ _ _ ok1 h) ok_21 kc_0.1 ci_X0_worthOf q_714 rfl rfl rfl rfl dX8_ask_44 hP hS hl) (fun r4 s5 h => ?_)
        refine r_goto (pc := 47) (tgt := 58) E dX8_ask_47 (by decide) ?_
        exact r_iret (pc := 58) E hr dX8_ask_58 h
    · have h := h.2 c2
      refine r_ldc (pc := 17) (v := (-1000001)) E q_359 dX8_ask_17 ?_
      exact r_iret (pc := 19) E hr dX8_ask_19 h

/-! ChairFront.trace -/
def rm_X8_trace : Room := { frames := 1, cells := 0, slots := 0, locals := 22 }
theorem ci_X8_trace : CI yX8_trace RX8 cX8_trace 2 (some .int) 1 := ⟨q_756, q_757, q_55, q_758, by decide +kernel⟩
def w_X8_trace (s0 : ST) (a1 : Int32) (Q : Int32 → ST → Prop) : Prop := w_X8_within s0 a1 0 ((s0 21 1) - 1) (fun r1 s1 => ((r1 = 0 → (Q (-1000000) s1)) ∧ (¬ (r1 = 0) → (vp_in a1 16 ∧ (Q (s1 22 a1.toNatClampNeg) s1)))))
set_option maxRecDepth 100000 in
set_option maxHeartbeats 4000000 in
theorem c_X8_trace {l : Launch} (X : XT) (s0 : ST) (a1 : Int32) (Q : Int32 → ST → Prop) (h : w_X8_trace s0 a1 Q) : MetI l yX8_trace (wS yX8_trace cX8_trace 2 (some .int)) rm_X8_trace X s0 [.ref (xa X 0), .int a1] Q := by
  refine metG (own := RX8) (k := 0) (lv0 := [some (.ref (xa X 0)), some (.int a1)]) (by decide) rfl rfl rfl ?_
  intro p e s m args below meth c E hr
  refine r_iload_n (pc := 0) E dX8_trace_0 rfl rfl ?_
  refine r_iconst (pc := 1) (v := 0) E dX8_trace_1 (by decide) ?_
  refine r_aload_n (pc := 2) E dX8_trace_2 rfl rfl ?_
  refine r_get (pc := 3) (j := 15) (v := .ref (xa X 21)) E ok_0 kc_8 rfl q_318 rfl dX8_trace_3 ?_
  refine r_get (pc := 6) (j := 1) E ok_21 kc_0 rfl q_256 (svI rfl) dX8_trace_6 ?_
  refine r_iconst (pc := 9) (v := 1) E dX8_trace_9 (by decide) ?_
  refine r_isub (pc := 10) E dX8_trace_10 ?_
  refine afterI (pc := 11) E (fun H locs ls hP hS hl => runS (As := [.int a1, .int 0, .int ((s0 21 1) - 1)]) (rest := []) E (c_X8_within X _ _ _ _ _  h) cs_X8_within q_356 rfl rfl rfl rfl dX8_trace_11 hP hS hl) (fun r1 s1 h => ?_)
  refine r_if_eq (pc := 14) (tgt := 29) E dX8_trace_14 (by decide) (fun c1 => ?_) (fun c1 => ?_)
  · have h := h.1 c1
    refine r_ldc (pc := 29) (v := (-1000000)) E q_369 dX8_trace_29 ?_
    exact r_iret (pc := 31) E hr dX8_trace_31 h
  · have h := h.2 c1
    refine r_aload_n (pc := 17) E dX8_trace_17 rfl rfl ?_
    refine r_get (pc := 18) (j := 15) (v := .ref (xa X 21)) E ok_0 kc_8 rfl q_318 rfl dX8_trace_18 ?_
    refine r_get (pc := 21) (j := 0) (v := .ref (xa X 22)) E ok_21 kc_0 rfl q_254 rfl dX8_trace_21 ?_
    refine r_iload_n (pc := 24) E dX8_trace_24 rfl rfl ?_
    refine r_iald (pc := 25) (n := 16) E ok_22 rfl h.1 dX8_trace_25 ?_
    have h := h.2
    refine r_goto (pc := 26) (tgt := 31) E dX8_trace_26 (by decide) ?_
    exact r_iret (pc := 31) E hr dX8_trace_31 h

/-! ChairFront.allStanding -/
def rm_X8_allStanding : Room := { frames := 0, cells := 0, slots := 0, locals := 0 }
theorem ci_X8_allStanding : CI yX8_allStanding RX8 cX8_allStanding 3 (some .int) 0 := ⟨q_765, q_35, q_55, q_766, by decide +kernel⟩
def w_X8_allStanding_L4 (K : ST → Int32 → Prop) (Q : Int32 → ST → Prop) : Nat → ST → Int32 → Int32 → Prop
  | 0, _, _, _ => False
  | n + 1, s0, v1, v2 => (((s0 0 7) ≤ v2 → (K s0 v1)) ∧ (¬ ((s0 0 7) ≤ v2) → (vp_in v2 10 ∧ (∀ k1 : Nat, k1 = 23 + v2.toNatClampNeg → (∀ x1 : Int32, x1 = (v1 + (s0 k1 2)) → (∀ x2 : Int32, x2 = v2 + 1 → (w_X8_allStanding_L4 K Q n s0 x1 x2)))))))
set_option maxRecDepth 100000 in
set_option maxHeartbeats 4000000 in
theorem t_X8_allStanding_L4 {p : Program} {l : Launch} {e : Env} {s : State} {m : MethodId} {args : Array Value} {below : List Frame} {meth : Method} {c : Code} {X : XT} (E : Ev p rm_X8_allStanding s m args meth c X (xA X) 3 0 0 cX8_allStanding RX8) (hr : meth.sig.returnType = (some .int)) {K : ST → Int32 → Prop} {Q : Int32 → ST → Prop} (hK : ∀ (s0 : ST) (v1 : Int32), K s0 v1 → G p l e rm_X8_allStanding s m args below meth c X (xA X) 3 0 0 (MQ below (va_Qi Q (Bw X) (xA X)) args s 0 0 (xA X)) s0 30 [none, some (.int v1), none] []) : ∀ (n : Nat) (s0 : ST) (v1 : Int32) (v2 : Int32), w_X8_allStanding_L4 K Q n s0 v1 v2 → G p l e rm_X8_allStanding s m args below meth c X (xA X) 3 0 0 (MQ below (va_Qi Q (Bw X) (xA X)) args s 0 0 (xA X)) s0 4 [some (.ref (xa X 0)), some (.int v1), some (.int v2)] [] := by
  intro n
  induction n with
  | zero => intro s0 v1 v2 h; exact h.elim
  | succ n ih =>
    intro s0 v1 v2 h
    refine r_iload_n (pc := 4) E dX8_allStanding_4 rfl rfl ?_
    refine r_aload_n (pc := 5) E dX8_allStanding_5 rfl rfl ?_
    refine r_get (pc := 6) (j := 7) E ok_0 kc_8 rfl q_310 (svI rfl) dX8_allStanding_6 ?_
    refine r_icmp_ge (pc := 9) (tgt := 30) E dX8_allStanding_9 (by decide) (fun c1 => ?_) (fun c1 => ?_)
    · have h := h.1 c1
      exact r_forget (le_n (le_s (le_n le_0))) (hK _ _ h)
    · have h := h.2 c1
      refine r_iload_n (pc := 12) E dX8_allStanding_12 rfl rfl ?_
      refine r_aload_n (pc := 13) E dX8_allStanding_13 rfl rfl ?_
      refine r_get (pc := 14) (j := 8) (v := .ref (xa X 1)) E ok_0 kc_8 rfl q_311 rfl dX8_allStanding_14 ?_
      refine r_iload_n (pc := 17) E dX8_allStanding_17 rfl rfl ?_
      refine r_aldSn (pc := 18) E h.1 dX8_allStanding_18 (fun k1 ek1 ok1 => ?_)
      have h := h.2 k1 ek1
      refine r_get (pc := 19) (j := 2) E ok1 kc_4 rfl q_279 (svI (r0 (.inl ok1) rfl)) dX8_allStanding_19 ?_
      refine r_iadd (pc := 22) E dX8_allStanding_22 ?_
      refine r_topi (fun x1 ex1 => ?_)
      have h := h x1 ex1
      refine r_istore_n (pc := 23) (lv' := [some (.ref (xa X 0)), some (.int x1), some (.int v2)]) E dX8_allStanding_23 rfl rfl rfl rfl ?_
      obtain ⟨x2, ex2⟩ : ∃ z : Int32, z = v2 + 1 := ⟨_, rfl⟩
      have h := h x2 ex2
      refine r_iinc (pc := 24) (v := 1) (lv' := [some (.ref (xa X 0)), some (.int x1), some (.int x2)]) E dX8_allStanding_24 rfl (by decide) rfl rfl (by rw [ex2]; rfl) ?_
      refine r_goto (pc := 27) (tgt := 4) E dX8_allStanding_27 (by decide) ?_
      exact r_forget (le_s (le_s (le_s le_0))) (ih _ _ _ h)

def w_X8_allStanding (s0 : ST) (Q : Int32 → ST → Prop) : Prop := ∃ n1 : Nat, w_X8_allStanding_L4 (fun (s1 : ST) (x3 : Int32) => Q x3 s1) Q n1 s0 0 0
set_option maxRecDepth 100000 in
set_option maxHeartbeats 4000000 in
theorem c_X8_allStanding {l : Launch} (X : XT) (s0 : ST) (Q : Int32 → ST → Prop) (h : w_X8_allStanding s0 Q) : MetI l yX8_allStanding (wS yX8_allStanding cX8_allStanding 3 (some .int)) rm_X8_allStanding X s0 [.ref (xa X 0)] Q := by
  refine metG (own := RX8) (k := 2) (lv0 := [some (.ref (xa X 0)), none, none]) (by decide) rfl rfl rfl ?_
  intro p e s m args below meth c E hr
  refine r_iconst (pc := 0) (v := 0) E dX8_allStanding_0 (by decide) ?_
  refine r_istore_n (pc := 1) (lv' := [some (.ref (xa X 0)), some (.int 0), none]) E dX8_allStanding_1 rfl rfl rfl rfl ?_
  refine r_iconst (pc := 2) (v := 0) E dX8_allStanding_2 (by decide) ?_
  refine r_istore_n (pc := 3) (lv' := [some (.ref (xa X 0)), some (.int 0), some (.int 0)]) E dX8_allStanding_3 rfl rfl rfl rfl ?_
  obtain ⟨n1, h⟩ := h
  refine r_forget (le_s (le_s (le_s le_0))) (t_X8_allStanding_L4 E hr ?_ n1 _ _ _ h)
  intro s1 x3 h
  refine r_iload_n (pc := 30) E dX8_allStanding_30 rfl rfl ?_
  exact r_iret (pc := 31) E hr dX8_allStanding_31 h

/-! ChairFront.count -/
def rm_X8_count : Room := { frames := 1, cells := 0, slots := 0, locals := 22 }
theorem ci_X8_count : CI yX8_count RX8 cX8_count 2 (some .int) 1 := ⟨q_760, q_761, q_55, q_762, by decide +kernel⟩
def w_X8_count (s0 : ST) (a1 : Int32) (Q : Int32 → ST → Prop) : Prop := ((a1 = 0 → (Q (s0 0 7) s0)) ∧ (¬ a1 = 0 → ((a1 = 1 → (Q (s0 0 0) s0)) ∧ (¬ a1 = 1 → ((a1 = 2 → (w_X8_allStanding s0 (fun r1 s1 => Q r1 s1))) ∧ (¬ a1 = 2 → ((a1 = 3 → (Q (s0 0 1) s0)) ∧ (¬ a1 = 3 → ((a1 = 4 → (Q (s0 0 2) s0)) ∧ (¬ a1 = 4 → ((a1 = 5 → (Q (s0 2 1) s0)) ∧ (¬ a1 = 5 → ((a1 = 6 → (Q (s0 2 2) s0)) ∧ (¬ a1 = 6 → ((a1 = 7 → (Q (s0 0 5) s0)) ∧ (¬ a1 = 7 → ((a1 = 8 → (Q (s0 2 3) s0)) ∧ (¬ a1 = 8 → ((a1 = 9 → (Q (s0 2 4) s0)) ∧ (¬ a1 = 9 → (Q (-1000001) s0)))))))))))))))))))))
set_option maxRecDepth 100000 in
set_option maxHeartbeats 4000000 in
theorem c_X8_count {l : Launch} (X : XT) (s0 : ST) (a1 : Int32) (Q : Int32 → ST → Prop) (h : w_X8_count s0 a1 Q) : MetI l yX8_count (wS yX8_count cX8_count 2 (some .int)) rm_X8_count X s0 [.ref (xa X 0), .int a1] Q := by
  refine metG (own := RX8) (k := 0) (lv0 := [some (.ref (xa X 0)), some (.int a1)]) (by decide) rfl rfl rfl ?_
  intro p e s m args below meth c E hr
  refine r_iload_n (pc := 0) E dX8_count_0 rfl rfl ?_
  by_cases c1 : a1 = 0
  · have h := h.1 c1
    refine r_tabIn (pc := 1) (tgt := 56) (off := 55) (v := 0) E c1 dX8_count_1 (by decide) (by decide) (by decide) (by decide) ?_
    refine r_aload_n (pc := 56) E dX8_count_56 rfl rfl ?_
    refine r_get (pc := 57) (j := 7) E ok_0 kc_8 rfl q_310 (svI rfl) dX8_count_57 ?_
    exact r_iret (pc := 60) E hr dX8_count_60 h
  have h := h.2 c1
  by_cases c2 : a1 = 1
  · have h := h.1 c2
    refine r_tabIn (pc := 1) (tgt := 61) (off := 60) (v := 1) E c2 dX8_count_1 (by decide) (by decide) (by decide) (by decide) ?_
    refine r_aload_n (pc := 61) E dX8_count_61 rfl rfl ?_
    refine r_get (pc := 62) (j := 0) E ok_0 kc_8 rfl q_303 (svI rfl) dX8_count_62 ?_
    exact r_iret (pc := 65) E hr dX8_count_65 h
  have h := h.2 c2
  by_cases c3 : a1 = 2
  · have h := h.1 c3
    refine r_tabIn (pc := 1) (tgt := 66) (off := 65) (v := 2) E c3 dX8_count_1 (by decide) (by decide) (by decide) (by decide) ?_
    refine r_aload_n (pc := 66) E dX8_count_66 rfl rfl ?_
    refine afterI (pc := 67) E (fun H locs ls hP hS hl => runV (As := []) (rest := []) E (c_X8_allStanding X _  _  h) ok_0 kc_8.1 ci_X8_allStanding q_763 rfl rfl rfl rfl dX8_count_67 hP hS hl) (fun r1 s1 h => ?_)
    exact r_iret (pc := 70) E hr dX8_count_70 h
  have h := h.2 c3
  by_cases c4 : a1 = 3
  · have h := h.1 c4
    refine r_tabIn (pc := 1) (tgt := 71) (off := 70) (v := 3) E c4 dX8_count_1 (by decide) (by decide) (by decide) (by decide) ?_
    refine r_aload_n (pc := 71) E dX8_count_71 rfl rfl ?_
    refine r_get (pc := 72) (j := 1) E ok_0 kc_8 rfl q_304 (svI rfl) dX8_count_72 ?_
    exact r_iret (pc := 75) E hr dX8_count_75 h
  have h := h.2 c4
  by_cases c5 : a1 = 4
  · have h := h.1 c5
    refine r_tabIn (pc := 1) (tgt := 76) (off := 75) (v := 4) E c5 dX8_count_1 (by decide) (by decide) (by decide) (by decide) ?_
    refine r_aload_n (pc := 76) E dX8_count_76 rfl rfl ?_
    refine r_get (pc := 77) (j := 2) E ok_0 kc_8 rfl q_305 (svI rfl) dX8_count_77 ?_
    exact r_iret (pc := 80) E hr dX8_count_80 h
  have h := h.2 c5
  by_cases c6 : a1 = 5
  · have h := h.1 c6
    refine r_tabIn (pc := 1) (tgt := 81) (off := 80) (v := 5) E c6 dX8_count_1 (by decide) (by decide) (by decide) (by decide) ?_
    refine r_aload_n (pc := 81) E dX8_count_81 rfl rfl ?_
    refine r_get (pc := 82) (j := 9) (v := .ref (xa X 2)) E ok_0 kc_8 rfl q_312 rfl dX8_count_82 ?_
    refine r_get (pc := 85) (j := 1) E ok_2 kc_7 rfl q_122 (svI rfl) dX8_count_85 ?_
    exact r_iret (pc := 88) E hr dX8_count_88 h
  have h := h.2 c6
  by_cases c7 : a1 = 6
  · have h := h.1 c7
    refine r_tabIn (pc := 1) (tgt := 89) (off := 88) (v := 6) E c7 dX8_count_1 (by decide) (by decide) (by decide) (by decide) ?_
    refine r_aload_n (pc := 89) E dX8_count_89 rfl rfl ?_
    refine r_get (pc := 90) (j := 9) (v := .ref (xa X 2)) E ok_0 kc_8 rfl q_312 rfl dX8_count_90 ?_
    refine r_get (pc := 93) (j := 2) E ok_2 kc_7 rfl q_124 (svI rfl) dX8_count_93 ?_
    exact r_iret (pc := 96) E hr dX8_count_96 h
  have h := h.2 c7
  by_cases c8 : a1 = 7
  · have h := h.1 c8
    refine r_tabIn (pc := 1) (tgt := 97) (off := 96) (v := 7) E c8 dX8_count_1 (by decide) (by decide) (by decide) (by decide) ?_
    refine r_aload_n (pc := 97) E dX8_count_97 rfl rfl ?_
    refine r_get (pc := 98) (j := 5) E ok_0 kc_8 rfl q_308 (svI rfl) dX8_count_98 ?_
    exact r_iret (pc := 101) E hr dX8_count_101 h
  have h := h.2 c8
  by_cases c9 : a1 = 8
  · have h := h.1 c9
    refine r_tabIn (pc := 1) (tgt := 102) (off := 101) (v := 8) E c9 dX8_count_1 (by decide) (by decide) (by decide) (by decide) ?_
    refine r_aload_n (pc := 102) E dX8_count_102 rfl rfl ?_
    refine r_get (pc := 103) (j := 9) (v := .ref (xa X 2)) E ok_0 kc_8 rfl q_312 rfl dX8_count_103 ?_
    refine r_get (pc := 106) (j := 3) E ok_2 kc_7 rfl q_125 (svI rfl) dX8_count_106 ?_
    exact r_iret (pc := 109) E hr dX8_count_109 h
  have h := h.2 c9
  by_cases c10 : a1 = 9
  · have h := h.1 c10
    refine r_tabIn (pc := 1) (tgt := 110) (off := 109) (v := 9) E c10 dX8_count_1 (by decide) (by decide) (by decide) (by decide) ?_
    refine r_aload_n (pc := 110) E dX8_count_110 rfl rfl ?_
    refine r_get (pc := 111) (j := 9) (v := .ref (xa X 2)) E ok_0 kc_8 rfl q_312 rfl dX8_count_111 ?_
    refine r_get (pc := 114) (j := 4) E ok_2 kc_7 rfl q_126 (svI rfl) dX8_count_114 ?_
    exact r_iret (pc := 117) E hr dX8_count_117 h
  have h := h.2 c10
  refine r_tabOut (pc := 1) (tgt := 118) E 0 10 (by decide) (fun j hj => match j, hj with | 0, _ => c1 | 1, _ => c2 | 2, _ => c3 | 3, _ => c4 | 4, _ => c5 | 5, _ => c6 | 6, _ => c7 | 7, _ => c8 | 8, _ => c9 | 9, _ => c10 | j + 10, hj => absurd hj (by omega)) dX8_count_1 (by decide) (by decide) (by decide) ?_
  refine r_ldc (pc := 118) (v := (-1000001)) E q_359 dX8_count_118 ?_
  exact r_iret (pc := 120) E hr dX8_count_120 h

