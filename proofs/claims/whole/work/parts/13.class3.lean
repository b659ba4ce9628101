/-! ChairFront$Reader.isWord -/
def rm_X2_isWord : Room := { frames := 5, cells := 0, slots := 0, locals := 140 }
theorem ci_X2_isWord : CI yX2_isWord RX2 cX2_isWord 3 (some .boolean) 1 := ⟨q_531, q_16, q_58, q_532, by decide +kernel⟩
def w_X2_isWord_L28 (v1 : Nat) (K : ST → Prop) (Q : Int32 → ST → Prop) : Nat → ST → Int32 → Prop
  | 0, _, _ => False
  | n + 1, s0, v2 => (((nI (lenS.getD v1 0)) ≤ v2 → (K s0)) ∧ (¬ ((nI (lenS.getD v1 0)) ≤ v2) → (w_X5_at s0 ((s0 4 2) + v2) (fun r1 s3 => vp_in v2 (lenS.getD v1 0) ∧ (((r1 = (chS v1 v2.toNatClampNeg) → (∀ x1 : Int32, x1 = v2 + 1 → (w_X2_isWord_L28 v1 K Q n s3 x1))) ∧ (¬ (r1 = (chS v1 v2.toNatClampNeg)) → (Q 0 s3))))))))
set_option maxRecDepth 100000 in
set_option maxHeartbeats 4000000 in
theorem t_X2_isWord_L28 {p : Program} {l : Launch} {e : Env} {s : State} {m : MethodId} {args : Array Value} {below : List Frame} {meth : Method} {c : Code} {X : XT} (E : Ev p rm_X2_isWord s m args meth c X (xA X) 3 0 0 cX2_isWord RX2) (hr : meth.sig.returnType = (some .boolean)) {v1 : Nat} {K : ST → Prop} {Q : Int32 → ST → Prop} (ho1 : v1 < 7) (hK : ∀ (s0 : ST), K s0 → G p l e rm_X2_isWord s m args below meth c X (xA X) 3 0 0 (MQ below (va_Qi Q (Bw X) (xA X)) args s 0 0 (xA X)) s0 65 [none, none, none] []) : ∀ (n : Nat) (s0 : ST) (v2 : Int32), w_X2_isWord_L28 v1 K Q n s0 v2 → G p l e rm_X2_isWord s m args below meth c X (xA X) 3 0 0 (MQ below (va_Qi Q (Bw X) (xA X)) args s 0 0 (xA X)) s0 28 [some (.ref (xa X 4)), some (.ref (xk X v1)), some (.int v2)] [] := by
  intro n
  induction n with
  | zero => intro s0 v2 h; exact h.elim
  | succ n ih =>
    intro s0 v2 h
    refine r_iload_n (pc := 28) E dX2_isWord_28 rfl rfl ?_
    refine r_aload_n (pc := 29) E dX2_isWord_29 rfl rfl ?_
    refine afterI (pc := 30) (Q1 := fun r t => r = (nI (lenS.getD v1 0)) ∧ t = s0) E (fun H locs ls hP hS hl => runT (As := []) (rest := [.int v2]) E (c_J0_length_8abf5 X _ _ ho1 _ ⟨rfl, rfl⟩) ho1 ci_J0_length_8abf5 q_533 rfl rfl rfl rfl dX2_isWord_30 hP hS hl) (fun r s2 hz => ?_)
    rw [hz.1, hz.2]
    refine r_icmp_ge (pc := 33) (tgt := 65) E dX2_isWord_33 (by decide) (fun c3 => ?_) (fun c3 => ?_)
    · have h := h.1 c3
      exact r_forget (le_n (le_n (le_n le_0))) (hK _  h)
    · have h := h.2 c3
      refine r_aload_n (pc := 36) E dX2_isWord_36 rfl rfl ?_
      refine r_get (pc := 37) (j := 0) (v := .ref (xa X 5)) E ok_4 kc_2 rfl q_160 rfl dX2_isWord_37 ?_
      refine r_aload_n (pc := 40) E dX2_isWord_40 rfl rfl ?_
      refine r_get (pc := 41) (j := 2) E ok_4 kc_2 rfl q_163 (svI rfl) dX2_isWord_41 ?_
      refine r_iload_n (pc := 44) E dX2_isWord_44 rfl rfl ?_
      refine r_iadd (pc := 45) E dX2_isWord_45 ?_
      refine afterI (pc := 46) E (fun H locs ls hP hS hl => runV (As := [.int ((s0 4 2) + v2)]) (rest := []) E (c_X5_at X _ _ _  h) ok_5 kc_5.1 ci_X5_at q_503 rfl rfl rfl rfl dX2_isWord_46 hP hS hl) (fun r1 s3 h => ?_)
      refine r_aload_n (pc := 49) E dX2_isWord_49 rfl rfl ?_
      refine r_iload_n (pc := 50) E dX2_isWord_50 rfl rfl ?_
      refine afterI (pc := 51) (Q1 := fun r t => r = (chS v1 v2.toNatClampNeg) ∧ t = s3) E (fun H locs ls hP hS hl => runT (As := [.int v2]) (rest := [.int r1]) E (c_J0_charAt_5068e X _ _ _ ho1 h.1 _ ⟨rfl, rfl⟩) ho1 ci_J0_charAt_5068e q_543 rfl rfl rfl rfl dX2_isWord_51 hP hS hl) (fun r s4 hz => ?_)
      rw [hz.1, hz.2]
      have h := h.2
      refine r_icmp_eq (pc := 54) (tgt := 59) E dX2_isWord_54 (by decide) (fun c4 => ?_) (fun c4 => ?_)
      · have h := h.1 c4
        obtain ⟨x1, ex1⟩ : ∃ z : Int32, z = v2 + 1 := ⟨_, rfl⟩
        have h := h x1 ex1
        refine r_iinc (pc := 59) (v := 1) (lv' := [some (.ref (xa X 4)), some (.ref (xk X v1)), some (.int x1)]) E dX2_isWord_59 rfl (by decide) rfl rfl (by rw [ex1]; rfl) ?_
        refine r_goto (pc := 62) (tgt := 28) E dX2_isWord_62 (by decide) ?_
        exact r_forget (le_s (le_s (le_s le_0))) (ih _ _ h)
      · have h := h.2 c4
        refine r_iconst (pc := 57) (v := 0) E dX2_isWord_57 (by decide) ?_
        exact r_zret (pc := 58) E hr dX2_isWord_58 rfl h

def w_X2_isWord (s0 : ST) (a1 : Nat) (Q : Int32 → ST → Prop) : Prop := ((¬ (s0 4 1) = 1 → (Q 0 s0)) ∧ ((s0 4 1) = 1 → (((((s0 4 3) - (s0 4 2)) = (nI (lenS.getD a1 0)) → (∃ n1 : Nat, w_X2_isWord_L28 a1 (fun (s5 : ST) => Q 1 s5) Q n1 s0 0)) ∧ (¬ (((s0 4 3) - (s0 4 2)) = (nI (lenS.getD a1 0))) → (Q 0 s0))))))
set_option maxRecDepth 100000 in
set_option maxHeartbeats 4000000 in
theorem c_X2_isWord {l : Launch} (X : XT) (s0 : ST) (a1 : Nat) (Q : Int32 → ST → Prop) (ha1 : a1 < 7) (h : w_X2_isWord s0 a1 Q) : MetI l yX2_isWord (wS yX2_isWord cX2_isWord 3 (some .boolean)) rm_X2_isWord X s0 [.ref (xa X 4), .ref (xk X a1)] Q := by
  refine metG (own := RX2) (k := 1) (lv0 := [some (.ref (xa X 4)), some (.ref (xk X a1)), none]) (by decide) rfl rfl rfl ?_
  intro p e s m args below meth c E hr
  refine r_aload_n (pc := 0) E dX2_isWord_0 rfl rfl ?_
  refine r_get (pc := 1) (j := 1) E ok_4 kc_2 rfl q_162 (svI rfl) dX2_isWord_1 ?_
  refine r_iconst (pc := 4) (v := 1) E dX2_isWord_4 (by decide) ?_
  refine r_icmp_ne (pc := 5) (tgt := 24) E dX2_isWord_5 (by decide) (fun c1 => ?_) (fun c1 => ?_)
  · have h := h.1 c1
    refine r_iconst (pc := 24) (v := 0) E dX2_isWord_24 (by decide) ?_
    exact r_zret (pc := 25) E hr dX2_isWord_25 rfl h
  · have h := h.2 c1
    refine r_aload_n (pc := 8) E dX2_isWord_8 rfl rfl ?_
    refine r_get (pc := 9) (j := 3) E ok_4 kc_2 rfl q_164 (svI rfl) dX2_isWord_9 ?_
    refine r_aload_n (pc := 12) E dX2_isWord_12 rfl rfl ?_
    refine r_get (pc := 13) (j := 2) E ok_4 kc_2 rfl q_163 (svI rfl) dX2_isWord_13 ?_
    refine r_isub (pc := 16) E dX2_isWord_16 ?_
    refine r_aload_n (pc := 17) E dX2_isWord_17 rfl rfl ?_
    refine afterI (pc := 18) (Q1 := fun r t => r = (nI (lenS.getD a1 0)) ∧ t = s0) E (fun H locs ls hP hS hl => runT (As := []) (rest := [.int ((s0 4 3) - (s0 4 2))]) E (c_J0_length_8abf5 X _ _ ha1 _ ⟨rfl, rfl⟩) ha1 ci_J0_length_8abf5 q_533 rfl rfl rfl rfl dX2_isWord_18 hP hS hl) (fun r s1 hz => ?_)
    rw [hz.1, hz.2]
    refine r_icmp_eq (pc := 21) (tgt := 26) E dX2_isWord_21 (by decide) (fun c2 => ?_) (fun c2 => ?_)
    · have h := h.1 c2
      refine r_iconst (pc := 26) (v := 0) E dX2_isWord_26 (by decide) ?_
      refine r_istore_n (pc := 27) (lv' := [some (.ref (xa X 4)), some (.ref (xk X a1)), some (.int 0)]) E dX2_isWord_27 rfl rfl rfl rfl ?_
      obtain ⟨n1, h⟩ := h
      refine r_forget (le_s (le_s (le_s le_0))) (t_X2_isWord_L28 E hr ha1 ?_ n1 _ _ h)
      intro s5 h
      refine r_iconst (pc := 65) (v := 1) E dX2_isWord_65 (by decide) ?_
      exact r_zret (pc := 66) E hr dX2_isWord_66 rfl h
    · have h := h.2 c2
      refine r_iconst (pc := 24) (v := 0) E dX2_isWord_24 (by decide) ?_
      exact r_zret (pc := 25) E hr dX2_isWord_25 rfl h

/-! ChairFront$Reader.readHold -/
def rm_X2_readHold : Room := { frames := 6, cells := 0, slots := 0, locals := 162 }
theorem ci_X2_readHold : CI yX2_readHold RX2 cX2_readHold 2 (some .boolean) 1 := ⟨q_583, q_17, q_58, q_584, by decide +kernel⟩
def w_X2_readHold (s0 : ST) (a1 : Nat) (Q : Int32 → ST → Prop) : Prop := w_X2_advance s0 (fun s1 => w_X2_isWord s1 3 (fun r2 s2 => ((r2 = 0 → (w_X2_isWord s2 4 (fun r3 s3 => ((r3 = 0 → (w_X2_isWord s3 5 (fun r4 s4 => ((r4 = 0 → (w_X2_refuse s4 1 (fun r5 s5 => narrow .boolean (.int r5) = .int r5 ∧ Q r5 s5))) ∧ (¬ (r4 = 0) → (∀ s6 : ST, s6 = up s4 a1 1 0 → (w_X2_advance s6 (fun s7 => Q 1 s7)))))))) ∧ (¬ (r3 = 0) → (∀ s8 : ST, s8 = up s3 a1 1 2 → (w_X2_advance s8 (fun s9 => Q 1 s9)))))))) ∧ (¬ (r2 = 0) → (∀ s10 : ST, s10 = up s2 a1 1 1 → (w_X2_advance s10 (fun s11 => Q 1 s11)))))))
set_option maxRecDepth 100000 in
set_option maxHeartbeats 4000000 in
theorem c_X2_readHold {l : Launch} (X : XT) (s0 : ST) (a1 : Nat) (Q : Int32 → ST → Prop) (ha1 : okc 3 a1) (h : w_X2_readHold s0 a1 Q) : MetI l yX2_readHold (wS yX2_readHold cX2_readHold 2 (some .boolean)) rm_X2_readHold X s0 [.ref (xa X 4), .ref (xa X a1)] Q := by
  refine metG (own := RX2) (k := 0) (lv0 := [some (.ref (xa X 4)), some (.ref (xa X a1))]) (by decide) rfl rfl rfl ?_
  intro p e s m args below meth c E hr
  refine r_aload_n (pc := 0) E dX2_readHold_0 rfl rfl ?_
  refine afterV (pc := 1) E (fun H locs ls hP hS hl => runV (As := []) (rest := []) E (c_X2_advance X _  _  h) ok_4 kc_2.1 ci_X2_advance q_495 rfl rfl rfl rfl dX2_readHold_1 hP hS hl) (fun s1 h => ?_)
  refine r_aload_n (pc := 4) E dX2_readHold_4 rfl rfl ?_
  refine r_ldcS (pc := 5) (i := 3) E (by decide) rfl rfl dX2_readHold_5 ?_
  refine afterI (pc := 7) E (fun H locs ls hP hS hl => runV (As := [.ref (xk X 3)]) (rest := []) E (c_X2_isWord X _ _ _ (by decide) h) ok_4 kc_2.1 ci_X2_isWord q_529 rfl rfl rfl rfl dX2_readHold_7 hP hS hl) (fun r2 s2 h => ?_)
  refine r_if_eq (pc := 10) (tgt := 21) E dX2_readHold_10 (by decide) (fun c1 => ?_) (fun c1 => ?_)
  · have h := h.1 c1
    refine r_aload_n (pc := 21) E dX2_readHold_21 rfl rfl ?_
    refine r_ldcS (pc := 22) (i := 4) E (by decide) rfl rfl dX2_readHold_22 ?_
    refine afterI (pc := 24) E (fun H locs ls hP hS hl => runV (As := [.ref (xk X 4)]) (rest := []) E (c_X2_isWord X _ _ _ (by decide) h) ok_4 kc_2.1 ci_X2_isWord q_529 rfl rfl rfl rfl dX2_readHold_24 hP hS hl) (fun r3 s3 h => ?_)
    refine r_if_eq (pc := 27) (tgt := 38) E dX2_readHold_27 (by decide) (fun c2 => ?_) (fun c2 => ?_)
    · have h := h.1 c2
      refine r_aload_n (pc := 38) E dX2_readHold_38 rfl rfl ?_
      refine r_ldcS (pc := 39) (i := 5) E (by decide) rfl rfl dX2_readHold_39 ?_
      refine afterI (pc := 41) E (fun H locs ls hP hS hl => runV (As := [.ref (xk X 5)]) (rest := []) E (c_X2_isWord X _ _ _ (by decide) h) ok_4 kc_2.1 ci_X2_isWord q_529 rfl rfl rfl rfl dX2_readHold_41 hP hS hl) (fun r4 s4 h => ?_)
      refine r_if_eq (pc := 44) (tgt := 55) E dX2_readHold_44 (by decide) (fun c3 => ?_) (fun c3 => ?_)
      · have h := h.1 c3
        refine r_aload_n (pc := 55) E dX2_readHold_55 rfl rfl ?_
        refine r_iconst (pc := 56) (v := 1) E dX2_readHold_56 (by decide) ?_
        refine afterI (pc := 57) E (fun H locs ls hP hS hl => runV (As := [.int 1]) (rest := []) E (c_X2_refuse X _ _ _  h) ok_4 kc_2.1 ci_X2_refuse q_588 rfl rfl rfl rfl dX2_readHold_57 hP hS hl) (fun r5 s5 h => ?_)
        exact r_zret (pc := 60) E hr dX2_readHold_60 h.1 h.2
      · have h := h.2 c3
        refine r_aload_n (pc := 47) E dX2_readHold_47 rfl rfl ?_
        refine r_iconst (pc := 48) (v := 0) E dX2_readHold_48 (by decide) ?_
        refine r_put (pc := 49) (j := 1) E ha1 kc_3 rfl q_201 (r0R ha1 rfl) rfl rfl dX2_readHold_49 (fun s6 es6 => ?_)
        have h := h s6 es6
        refine r_goto (pc := 52) (tgt := 61) E dX2_readHold_52 (by decide) ?_
        refine r_aload_n (pc := 61) E dX2_readHold_61 rfl rfl ?_
        refine afterV (pc := 62) E (fun H locs ls hP hS hl => runV (As := []) (rest := []) E (c_X2_advance X _  _  h) ok_4 kc_2.1 ci_X2_advance q_495 rfl rfl rfl rfl dX2_readHold_62 hP hS hl) (fun s7 h => ?_)
        refine r_iconst (pc := 65) (v := 1) E dX2_readHold_65 (by decide) ?_
        exact r_zret (pc := 66) E hr dX2_readHold_66 rfl h
    · have h := h.2 c2
      refine r_aload_n (pc := 30) E dX2_readHold_30 rfl rfl ?_
      refine r_iconst (pc := 31) (v := 2) E dX2_readHold_31 (by decide) ?_
      refine r_put (pc := 32) (j := 1) E ha1 kc_3 rfl q_201 (r0R ha1 rfl) rfl rfl dX2_readHold_32 (fun s8 es8 => ?_)
      have h := h s8 es8
      refine r_goto (pc := 35) (tgt := 61) E dX2_readHold_35 (by decide) ?_
      refine r_aload_n (pc := 61) E dX2_readHold_61 rfl rfl ?_
      refine afterV (pc := 62) E (fun H locs ls hP hS hl => runV (As := []) (rest := []) E (c_X2_advance X _  _  h) ok_4 kc_2.1 ci_X2_advance q_495 rfl rfl rfl rfl dX2_readHold_62 hP hS hl) (fun s9 h => ?_)
      refine r_iconst (pc := 65) (v := 1) E dX2_readHold_65 (by decide) ?_
      exact r_zret (pc := 66) E hr dX2_readHold_66 rfl h
  · have h := h.2 c1
    refine r_aload_n (pc := 13) E dX2_readHold_13 rfl rfl ?_
    refine r_iconst (pc := 14) (v := 1) E dX2_readHold_14 (by decide) ?_
    refine r_put (pc := 15) (j := 1) E ha1 kc_3 rfl q_201 (r0R ha1 rfl) rfl rfl dX2_readHold_15 (fun s10 es10 => ?_)
    have h := h s10 es10
    refine r_goto (pc := 18) (tgt := 61) E dX2_readHold_18 (by decide) ?_
    refine r_aload_n (pc := 61) E dX2_readHold_61 rfl rfl ?_
    refine afterV (pc := 62) E (fun H locs ls hP hS hl => runV (As := []) (rest := []) E (c_X2_advance X _  _  h) ok_4 kc_2.1 ci_X2_advance q_495 rfl rfl rfl rfl dX2_readHold_62 hP hS hl) (fun s11 h => ?_)
    refine r_iconst (pc := 65) (v := 1) E dX2_readHold_65 (by decide) ?_
    exact r_zret (pc := 66) E hr dX2_readHold_66 rfl h

/-! ChairFront$Reader.readPart -/
def rm_X2_readPart : Room := { frames := 6, cells := 0, slots := 0, locals := 162 }
theorem ci_X2_readPart : CI yX2_readPart RX2 cX2_readPart 3 (some .boolean) 2 := ⟨q_599, q_20, q_58, q_600, by decide +kernel⟩
def w_X2_readPart (s0 : ST) (a1 : Int32) (a2 : Int32) (Q : Int32 → ST → Prop) : Prop := w_X2_advance s0 (fun s1 => w_X2_standsNumber s1 a1 a2 (fun r2 s2 => ((¬ r2 = 0 → (∀ s3 : ST, s3 = up s2 4 5 (s2 4 4) → (w_X2_advance s3 (fun s4 => w_X2_isWord s4 6 (fun r4 s5 => ((¬ r4 = 0 → (w_X2_advance s5 (fun s6 => w_X2_standsNumber s6 0 100 (fun r6 s7 => ((¬ r6 = 0 → (∀ s8 : ST, s8 = up s7 4 6 (s7 4 4) → (w_X2_advance s8 (fun s9 => Q 1 s9)))) ∧ (r6 = 0 → (Q 0 s7))))))) ∧ (r4 = 0 → (w_X2_refuse s5 1 (fun r8 s10 => narrow .boolean (.int r8) = .int r8 ∧ Q r8 s10))))))))) ∧ (r2 = 0 → (Q 0 s2)))))
set_option maxRecDepth 100000 in
set_option maxHeartbeats 4000000 in
theorem c_X2_readPart {l : Launch} (X : XT) (s0 : ST) (a1 : Int32) (a2 : Int32) (Q : Int32 → ST → Prop) (h : w_X2_readPart s0 a1 a2 Q) : MetI l yX2_readPart (wS yX2_readPart cX2_readPart 3 (some .boolean)) rm_X2_readPart X s0 [.ref (xa X 4), .int a1, .int a2] Q := by
  refine metG (own := RX2) (k := 0) (lv0 := [some (.ref (xa X 4)), some (.int a1), some (.int a2)]) (by decide) rfl rfl rfl ?_
  intro p e s m args below meth c E hr
  refine r_aload_n (pc := 0) E dX2_readPart_0 rfl rfl ?_
  refine afterV (pc := 1) E (fun H locs ls hP hS hl => runV (As := []) (rest := []) E (c_X2_advance X _  _  h) ok_4 kc_2.1 ci_X2_advance q_495 rfl rfl rfl rfl dX2_readPart_1 hP hS hl) (fun s1 h => ?_)
  refine r_aload_n (pc := 4) E dX2_readPart_4 rfl rfl ?_
  refine r_iload_n (pc := 5) E dX2_readPart_5 rfl rfl ?_
  refine r_iload_n (pc := 6) E dX2_readPart_6 rfl rfl ?_
  refine afterI (pc := 7) E (fun H locs ls hP hS hl => runV (As := [.int a1, .int a2]) (rest := []) E (c_X2_standsNumber X _ _ _ _  h) ok_4 kc_2.1 ci_X2_standsNumber q_601 rfl rfl rfl rfl dX2_readPart_7 hP hS hl) (fun r2 s2 h => ?_)
  refine r_if_ne (pc := 10) (tgt := 15) E dX2_readPart_10 (by decide) (fun c1 => ?_) (fun c1 => ?_)
  · have h := h.1 c1
    refine r_aload_n (pc := 15) E dX2_readPart_15 rfl rfl ?_
    refine r_aload_n (pc := 16) E dX2_readPart_16 rfl rfl ?_
    refine r_get (pc := 17) (j := 4) E ok_4 kc_2 rfl q_165 (svI rfl) dX2_readPart_17 ?_
    refine r_put (pc := 20) (j := 5) E ok_4 kc_2 rfl q_166 rfl rfl rfl dX2_readPart_20 (fun s3 es3 => ?_)
    have h := h s3 es3
    refine r_aload_n (pc := 23) E dX2_readPart_23 rfl rfl ?_
    refine afterV (pc := 24) E (fun H locs ls hP hS hl => runV (As := []) (rest := []) E (c_X2_advance X _  _  h) ok_4 kc_2.1 ci_X2_advance q_495 rfl rfl rfl rfl dX2_readPart_24 hP hS hl) (fun s4 h => ?_)
    refine r_aload_n (pc := 27) E dX2_readPart_27 rfl rfl ?_
    refine r_ldcS (pc := 28) (i := 6) E (by decide) rfl rfl dX2_readPart_28 ?_
    refine afterI (pc := 30) E (fun H locs ls hP hS hl => runV (As := [.ref (xk X 6)]) (rest := []) E (c_X2_isWord X _ _ _ (by decide) h) ok_4 kc_2.1 ci_X2_isWord q_529 rfl rfl rfl rfl dX2_readPart_30 hP hS hl) (fun r4 s5 h => ?_)
    refine r_if_ne (pc := 33) (tgt := 42) E dX2_readPart_33 (by decide) (fun c2 => ?_) (fun c2 => ?_)
    · have h := h.1 c2
      refine r_aload_n (pc := 42) E dX2_readPart_42 rfl rfl ?_
      refine afterV (pc := 43) E (fun H locs ls hP hS hl => runV (As := []) (rest := []) E (c_X2_advance X _  _  h) ok_4 kc_2.1 ci_X2_advance q_495 rfl rfl rfl rfl dX2_readPart_43 hP hS hl) (fun s6 h => ?_)
      refine r_aload_n (pc := 46) E dX2_readPart_46 rfl rfl ?_
      refine r_iconst (pc := 47) (v := 0) E dX2_readPart_47 (by decide) ?_
      refine r_bipush (pc := 48) (v := 100) E dX2_readPart_48 (by decide) ?_
      refine afterI (pc := 50) E (fun H locs ls hP hS hl => runV (As := [.int 0, .int 100]) (rest := []) E (c_X2_standsNumber X _ _ _ _  h) ok_4 kc_2.1 ci_X2_standsNumber q_601 rfl rfl rfl rfl dX2_readPart_50 hP hS hl) (fun r6 s7 h => ?_)
      refine r_if_ne (pc := 53) (tgt := 58) E dX2_readPart_53 (by decide) (fun c3 => ?_) (fun c3 => ?_)
      · have h := h.1 c3
        refine r_aload_n (pc := 58) E dX2_readPart_58 rfl rfl ?_
        refine r_aload_n (pc := 59) E dX2_readPart_59 rfl rfl ?_
        refine r_get (pc := 60) (j := 4) E ok_4 kc_2 rfl q_165 (svI rfl) dX2_readPart_60 ?_
        refine r_put (pc := 63) (j := 6) E ok_4 kc_2 rfl q_167 rfl rfl rfl dX2_readPart_63 (fun s8 es8 => ?_)
        have h := h s8 es8
        refine r_aload_n (pc := 66) E dX2_readPart_66 rfl rfl ?_
        refine afterV (pc := 67) E (fun H locs ls hP hS hl => runV (As := []) (rest := []) E (c_X2_advance X _  _  h) ok_4 kc_2.1 ci_X2_advance q_495 rfl rfl rfl rfl dX2_readPart_67 hP hS hl) (fun s9 h => ?_)
        refine r_iconst (pc := 70) (v := 1) E dX2_readPart_70 (by decide) ?_
        exact r_zret (pc := 71) E hr dX2_readPart_71 rfl h
      · have h := h.2 c3
        refine r_iconst (pc := 56) (v := 0) E dX2_readPart_56 (by decide) ?_
        exact r_zret (pc := 57) E hr dX2_readPart_57 rfl h
    · have h := h.2 c2
      refine r_aload_n (pc := 36) E dX2_readPart_36 rfl rfl ?_
      refine r_iconst (pc := 37) (v := 1) E dX2_readPart_37 (by decide) ?_
      refine afterI (pc := 38) E (fun H locs ls hP hS hl => runV (As := [.int 1]) (rest := []) E (c_X2_refuse X _ _ _  h) ok_4 kc_2.1 ci_X2_refuse q_588 rfl rfl rfl rfl dX2_readPart_38 hP hS hl) (fun r8 s10 h => ?_)
      exact r_zret (pc := 41) E hr dX2_readPart_41 h.1 h.2
  · have h := h.2 c1
    refine r_iconst (pc := 13) (v := 0) E dX2_readPart_13 (by decide) ?_
    exact r_zret (pc := 14) E hr dX2_readPart_14 rfl h

/-! ChairFront$Reader.readRain -/
def rm_X2_readRain : Room := { frames := 7, cells := 0, slots := 0, locals := 184 }
theorem ci_X2_readRain : CI yX2_readRain RX2 cX2_readRain 2 (some .boolean) 1 := ⟨q_595, q_19, q_58, q_596, by decide +kernel⟩
def w_X2_readRain (s0 : ST) (a1 : Nat) (Q : Int32 → ST → Prop) : Prop := (((s0 a1 2) < 5 → (w_X2_readPart s0 1 60 (fun r1 s1 => ((¬ r1 = 0 → (w_X3_addRain s1 a1 (s1 4 5) (s1 4 6) (fun s2 => Q 1 s2))) ∧ (r1 = 0 → (Q 0 s1)))))) ∧ (¬ ((s0 a1 2) < 5) → (w_X2_refuse s0 3 (fun r3 s3 => narrow .boolean (.int r3) = .int r3 ∧ Q r3 s3))))
set_option maxRecDepth 100000 in
set_option maxHeartbeats 4000000 in
theorem c_X2_readRain {l : Launch} (X : XT) (s0 : ST) (a1 : Nat) (Q : Int32 → ST → Prop) (ha1 : okc 3 a1) (h : w_X2_readRain s0 a1 Q) : MetI l yX2_readRain (wS yX2_readRain cX2_readRain 2 (some .boolean)) rm_X2_readRain X s0 [.ref (xa X 4), .ref (xa X a1)] Q := by
  refine metG (own := RX2) (k := 0) (lv0 := [some (.ref (xa X 4)), some (.ref (xa X a1))]) (by decide) rfl rfl rfl ?_
  intro p e s m args below meth c E hr
  refine r_aload_n (pc := 0) E dX2_readRain_0 rfl rfl ?_
  refine r_get (pc := 1) (j := 2) E ha1 kc_3 rfl q_203 (svI (r0R ha1 rfl)) dX2_readRain_1 ?_
  refine r_iconst (pc := 4) (v := 5) E dX2_readRain_4 (by decide) ?_
  refine r_icmp_lt (pc := 5) (tgt := 14) E dX2_readRain_5 (by decide) (fun c1 => ?_) (fun c1 => ?_)
  · have h := h.1 c1
    refine r_aload_n (pc := 14) E dX2_readRain_14 rfl rfl ?_
    refine r_iconst (pc := 15) (v := 1) E dX2_readRain_15 (by decide) ?_
    refine r_bipush (pc := 16) (v := 60) E dX2_readRain_16 (by decide) ?_
    refine afterI (pc := 18) E (fun H locs ls hP hS hl => runV (As := [.int 1, .int 60]) (rest := []) E (c_X2_readPart X _ _ _ _  h) ok_4 kc_2.1 ci_X2_readPart q_597 rfl rfl rfl rfl dX2_readRain_18 hP hS hl) (fun r1 s1 h => ?_)
    refine r_if_ne (pc := 21) (tgt := 26) E dX2_readRain_21 (by decide) (fun c2 => ?_) (fun c2 => ?_)
    · have h := h.1 c2
      refine r_aload_n (pc := 26) E dX2_readRain_26 rfl rfl ?_
      refine r_aload_n (pc := 27) E dX2_readRain_27 rfl rfl ?_
      refine r_get (pc := 28) (j := 5) E ok_4 kc_2 rfl q_166 (svI rfl) dX2_readRain_28 ?_
      refine r_aload_n (pc := 31) E dX2_readRain_31 rfl rfl ?_
      refine r_get (pc := 32) (j := 6) E ok_4 kc_2 rfl q_167 (svI rfl) dX2_readRain_32 ?_
      refine afterV (pc := 35) E (fun H locs ls hP hS hl => runV (As := [.int (s1 4 5), .int (s1 4 6)]) (rest := []) E (c_X3_addRain X _ _ _ _ _ ha1 h) ha1 kc_3.1 ci_X3_addRain q_607 rfl rfl rfl rfl dX2_readRain_35 hP hS hl) (fun s2 h => ?_)
      refine r_iconst (pc := 38) (v := 1) E dX2_readRain_38 (by decide) ?_
      exact r_zret (pc := 39) E hr dX2_readRain_39 rfl h
    · have h := h.2 c2
      refine r_iconst (pc := 24) (v := 0) E dX2_readRain_24 (by decide) ?_
      exact r_zret (pc := 25) E hr dX2_readRain_25 rfl h
  · have h := h.2 c1
    refine r_aload_n (pc := 8) E dX2_readRain_8 rfl rfl ?_
    refine r_iconst (pc := 9) (v := 3) E dX2_readRain_9 (by decide) ?_
    refine afterI (pc := 10) E (fun H locs ls hP hS hl => runV (As := [.int 3]) (rest := []) E (c_X2_refuse X _ _ _  h) ok_4 kc_2.1 ci_X2_refuse q_588 rfl rfl rfl rfl dX2_readRain_10 hP hS hl) (fun r3 s3 h => ?_)
    exact r_zret (pc := 13) E hr dX2_readRain_13 h.1 h.2

/-! ChairFront$Reader.readRent -/
def rm_X2_readRent : Room := { frames := 7, cells := 0, slots := 0, locals := 184 }
theorem ci_X2_readRent : CI yX2_readRent RX2 cX2_readRent 2 (some .boolean) 1 := ⟨q_614, q_22, q_58, q_615, by decide +kernel⟩
def w_X2_readRent (s0 : ST) (a1 : Nat) (Q : Int32 → ST → Prop) : Prop := (((s0 a1 3) < 5 → (w_X3_leastNextEnd s0 a1 (fun r1 s1 => w_X2_readPart s1 r1 99999 (fun r2 s2 => ((¬ r2 = 0 → (w_X3_addRent s2 a1 (s2 4 5) (s2 4 6) (fun s3 => Q 1 s3))) ∧ (r2 = 0 → (Q 0 s2))))))) ∧ (¬ ((s0 a1 3) < 5) → (w_X2_refuse s0 3 (fun r4 s4 => narrow .boolean (.int r4) = .int r4 ∧ Q r4 s4))))
set_option maxRecDepth 100000 in
set_option maxHeartbeats 4000000 in
theorem c_X2_readRent {l : Launch} (X : XT) (s0 : ST) (a1 : Nat) (Q : Int32 → ST → Prop) (ha1 : okc 3 a1) (h : w_X2_readRent s0 a1 Q) : MetI l yX2_readRent (wS yX2_readRent cX2_readRent 2 (some .boolean)) rm_X2_readRent X s0 [.ref (xa X 4), .ref (xa X a1)] Q := by
  refine metG (own := RX2) (k := 0) (lv0 := [some (.ref (xa X 4)), some (.ref (xa X a1))]) (by decide) rfl rfl rfl ?_
  intro p e s m args below meth c E hr
  refine r_aload_n (pc := 0) E dX2_readRent_0 rfl rfl ?_
  refine r_get (pc := 1) (j := 3) E ha1 kc_3 rfl q_205 (svI (r0R ha1 rfl)) dX2_readRent_1 ?_
  refine r_iconst (pc := 4) (v := 5) E dX2_readRent_4 (by decide) ?_
  refine r_icmp_lt (pc := 5) (tgt := 14) E dX2_readRent_5 (by decide) (fun c1 => ?_) (fun c1 => ?_)
  · have h := h.1 c1
    refine r_aload_n (pc := 14) E dX2_readRent_14 rfl rfl ?_
    refine r_aload_n (pc := 15) E dX2_readRent_15 rfl rfl ?_
    refine afterI (pc := 16) E (fun H locs ls hP hS hl => runV (As := []) (rest := [.ref (xa X 4)]) E (c_X3_leastNextEnd X _ _ _ ha1 h) ha1 kc_3.1 ci_X3_leastNextEnd q_616 rfl rfl rfl rfl dX2_readRent_16 hP hS hl) (fun r1 s1 h => ?_)
    refine r_ldc (pc := 19) (v := 99999) E q_620 dX2_readRent_19 ?_
    refine afterI (pc := 21) E (fun H locs ls hP hS hl => runV (As := [.int r1, .int 99999]) (rest := []) E (c_X2_readPart X _ _ _ _  h) ok_4 kc_2.1 ci_X2_readPart q_597 rfl rfl rfl rfl dX2_readRent_21 hP hS hl) (fun r2 s2 h => ?_)
    refine r_if_ne (pc := 24) (tgt := 29) E dX2_readRent_24 (by decide) (fun c2 => ?_) (fun c2 => ?_)
    · have h := h.1 c2
      refine r_aload_n (pc := 29) E dX2_readRent_29 rfl rfl ?_
      refine r_aload_n (pc := 30) E dX2_readRent_30 rfl rfl ?_
      refine r_get (pc := 31) (j := 5) E ok_4 kc_2 rfl q_166 (svI rfl) dX2_readRent_31 ?_
      refine r_aload_n (pc := 34) E dX2_readRent_34 rfl rfl ?_
      refine r_get (pc := 35) (j := 6) E ok_4 kc_2 rfl q_167 (svI rfl) dX2_readRent_35 ?_
      refine afterV (pc := 38) E (fun H locs ls hP hS hl => runV (As := [.int (s2 4 5), .int (s2 4 6)]) (rest := []) E (c_X3_addRent X _ _ _ _ _ ha1 h) ha1 kc_3.1 ci_X3_addRent q_621 rfl rfl rfl rfl dX2_readRent_38 hP hS hl) (fun s3 h => ?_)
      refine r_iconst (pc := 41) (v := 1) E dX2_readRent_41 (by decide) ?_
      exact r_zret (pc := 42) E hr dX2_readRent_42 rfl h
    · have h := h.2 c2
      refine r_iconst (pc := 27) (v := 0) E dX2_readRent_27 (by decide) ?_
      exact r_zret (pc := 28) E hr dX2_readRent_28 rfl h
  · have h := h.2 c1
    refine r_aload_n (pc := 8) E dX2_readRent_8 rfl rfl ?_
    refine r_iconst (pc := 9) (v := 3) E dX2_readRent_9 (by decide) ?_
    refine afterI (pc := 10) E (fun H locs ls hP hS hl => runV (As := [.int 3]) (rest := []) E (c_X2_refuse X _ _ _  h) ok_4 kc_2.1 ci_X2_refuse q_588 rfl rfl rfl rfl dX2_readRent_10 hP hS hl) (fun r4 s4 h => ?_)
    exact r_zret (pc := 13) E hr dX2_readRent_13 h.1 h.2

/-! ChairFront$Reader.readLine -/
def rm_X2_readLine : Room := { frames := 8, cells := 0, slots := 0, locals := 205 }
theorem ci_X2_readLine : CI yX2_readLine RX2 cX2_readLine 2 (some .boolean) 1 := ⟨q_526, q_15, q_58, q_527, by decide +kernel⟩
def w_X2_readLine (s0 : ST) (a1 : Nat) (Q : Int32 → ST → Prop) : Prop := w_X2_isWord s0 0 (fun r1 s1 => ((r1 = 0 → (w_X2_isWord s1 1 (fun r2 s2 => ((r2 = 0 → (w_X2_isWord s2 2 (fun r3 s3 => ((r3 = 0 → (w_X2_refuse s3 1 (fun r4 s4 => narrow .boolean (.int r4) = .int r4 ∧ Q r4 s4))) ∧ (¬ (r3 = 0) → (w_X2_readRent s3 a1 (fun r5 s5 => narrow .boolean (.int r5) = .int r5 ∧ Q r5 s5))))))) ∧ (¬ (r2 = 0) → (w_X2_readRain s2 a1 (fun r6 s6 => narrow .boolean (.int r6) = .int r6 ∧ Q r6 s6))))))) ∧ (¬ (r1 = 0) → (w_X2_readHold s1 a1 (fun r7 s7 => narrow .boolean (.int r7) = .int r7 ∧ Q r7 s7)))))
set_option maxRecDepth 100000 in
set_option maxHeartbeats 4000000 in
theorem c_X2_readLine {l : Launch} (X : XT) (s0 : ST) (a1 : Nat) (Q : Int32 → ST → Prop) (ha1 : okc 3 a1) (h : w_X2_readLine s0 a1 Q) : MetI l yX2_readLine (wS yX2_readLine cX2_readLine 2 (some .boolean)) rm_X2_readLine X s0 [.ref (xa X 4), .ref (xa X a1)] Q := by
  refine metG (own := RX2) (k := 0) (lv0 := [some (.ref (xa X 4)), some (.ref (xa X a1))]) (by decide) rfl rfl rfl ?_
  intro p e s m args below meth c E hr
  refine r_aload_n (pc := 0) E dX2_readLine_0 rfl rfl ?_
  refine r_ldcS (pc := 1) (i := 0) E (by decide) rfl rfl dX2_readLine_1 ?_
  refine afterI (pc := 3) E (fun H locs ls hP hS hl => runV (As := [.ref (xk X 0)]) (rest := []) E (c_X2_isWord X _ _ _ (by decide) h) ok_4 kc_2.1 ci_X2_isWord q_529 rfl rfl rfl rfl dX2_readLine_3 hP hS hl) (fun r1 s1 h => ?_)
  refine r_if_eq (pc := 6) (tgt := 15) E dX2_readLine_6 (by decide) (fun c1 => ?_) (fun c1 => ?_)
  · have h := h.1 c1
    refine r_aload_n (pc := 15) E dX2_readLine_15 rfl rfl ?_
    refine r_ldcS (pc := 16) (i := 1) E (by decide) rfl rfl dX2_readLine_16 ?_
    refine afterI (pc := 18) E (fun H locs ls hP hS hl => runV (As := [.ref (xk X 1)]) (rest := []) E (c_X2_isWord X _ _ _ (by decide) h) ok_4 kc_2.1 ci_X2_isWord q_529 rfl rfl rfl rfl dX2_readLine_18 hP hS hl) (fun r2 s2 h => ?_)
    refine r_if_eq (pc := 21) (tgt := 30) E dX2_readLine_21 (by decide) (fun c2 => ?_) (fun c2 => ?_)
    · have h := h.1 c2
      refine r_aload_n (pc := 30) E dX2_readLine_30 rfl rfl ?_
      refine r_ldcS (pc := 31) (i := 2) E (by decide) rfl rfl dX2_readLine_31 ?_
      refine afterI (pc := 33) E (fun H locs ls hP hS hl => runV (As := [.ref (xk X 2)]) (rest := []) E (c_X2_isWord X _ _ _ (by decide) h) ok_4 kc_2.1 ci_X2_isWord q_529 rfl rfl rfl rfl dX2_readLine_33 hP hS hl) (fun r3 s3 h => ?_)
      refine r_if_eq (pc := 36) (tgt := 45) E dX2_readLine_36 (by decide) (fun c3 => ?_) (fun c3 => ?_)
      · have h := h.1 c3
        refine r_aload_n (pc := 45) E dX2_readLine_45 rfl rfl ?_
        refine r_iconst (pc := 46) (v := 1) E dX2_readLine_46 (by decide) ?_
        refine afterI (pc := 47) E (fun H locs ls hP hS hl => runV (As := [.int 1]) (rest := []) E (c_X2_refuse X _ _ _  h) ok_4 kc_2.1 ci_X2_refuse q_588 rfl rfl rfl rfl dX2_readLine_47 hP hS hl) (fun r4 s4 h => ?_)
        exact r_zret (pc := 50) E hr dX2_readLine_50 h.1 h.2
      · have h := h.2 c3
        refine r_aload_n (pc := 39) E dX2_readLine_39 rfl rfl ?_
        refine r_aload_n (pc := 40) E dX2_readLine_40 rfl rfl ?_
        refine afterI (pc := 41) E (fun H locs ls hP hS hl => runV (As := [.ref (xa X a1)]) (rest := []) E (c_X2_readRent X _ _ _ ha1 h) ok_4 kc_2.1 ci_X2_readRent q_612 rfl rfl rfl rfl dX2_readLine_41 hP hS hl) (fun r5 s5 h => ?_)
        exact r_zret (pc := 44) E hr dX2_readLine_44 h.1 h.2
    · have h := h.2 c2
      refine r_aload_n (pc := 24) E dX2_readLine_24 rfl rfl ?_
      refine r_aload_n (pc := 25) E dX2_readLine_25 rfl rfl ?_
      refine afterI (pc := 26) E (fun H locs ls hP hS hl => runV (As := [.ref (xa X a1)]) (rest := []) E (c_X2_readRain X _ _ _ ha1 h) ok_4 kc_2.1 ci_X2_readRain q_593 rfl rfl rfl rfl dX2_readLine_26 hP hS hl) (fun r6 s6 h => ?_)
      exact r_zret (pc := 29) E hr dX2_readLine_29 h.1 h.2
  · have h := h.2 c1
    refine r_aload_n (pc := 9) E dX2_readLine_9 rfl rfl ?_
    refine r_aload_n (pc := 10) E dX2_readLine_10 rfl rfl ?_
    refine afterI (pc := 11) E (fun H locs ls hP hS hl => runV (As := [.ref (xa X a1)]) (rest := []) E (c_X2_readHold X _ _ _ ha1 h) ok_4 kc_2.1 ci_X2_readHold q_581 rfl rfl rfl rfl dX2_readLine_11 hP hS hl) (fun r7 s7 h => ?_)
    exact r_zret (pc := 14) E hr dX2_readLine_14 h.1 h.2

/-! ChairFront$Reader.readInto -/
def rm_X2_readInto : Room := { frames := 9, cells := 0, slots := 0, locals := 226 }
theorem ci_X2_readInto : CI yX2_readInto RX2 cX2_readInto 3 (some .boolean) 1 := ⟨q_492, q_493, q_58, q_494, by decide +kernel⟩
def w_X2_readInto_L11 (v1 : Nat) (K : ST → Prop) (Q : Int32 → ST → Prop) : Nat → ST → Int32 → Prop
  | 0, _, _ => False
  | n + 1, s0, v2 => (((300 : Int32) ≤ v2 → (K s0)) ∧ (¬ ((300 : Int32) ≤ v2) → ((((s0 4 1) = 0 → (K s0)) ∧ (¬ ((s0 4 1) = 0) → (w_X2_readLine s0 v1 (fun r2 s3 => ((¬ r2 = 0 → ((((s3 4 1) = 3 → (w_X2_advance s3 (fun s4 => ∀ s5 : ST, s5 = up s4 v1 0 ((s4 v1 0) + 1) → (∀ x1 : Int32, x1 = v2 + 1 → (w_X2_readInto_L11 v1 K Q n s5 x1))))) ∧ (¬ ((s3 4 1) = 3) → (w_X2_refuse s3 1 (fun r4 s6 => narrow .boolean (.int r4) = .int r4 ∧ Q r4 s6)))))) ∧ (r2 = 0 → (Q 0 s3))))))))))
set_option maxRecDepth 100000 in
set_option maxHeartbeats 4000000 in
theorem t_X2_readInto_L11 {p : Program} {l : Launch} {e : Env} {s : State} {m : MethodId} {args : Array Value} {below : List Frame} {meth : Method} {c : Code} {X : XT} (E : Ev p rm_X2_readInto s m args meth c X (xA X) 3 0 0 cX2_readInto RX2) (hr : meth.sig.returnType = (some .boolean)) {v1 : Nat} {K : ST → Prop} {Q : Int32 → ST → Prop} (ho1 : okc 3 v1) (hK : ∀ (s0 : ST), K s0 → G p l e rm_X2_readInto s m args below meth c X (xA X) 3 0 0 (MQ below (va_Qi Q (Bw X) (xA X)) args s 0 0 (xA X)) s0 69 [none, none, none] []) : ∀ (n : Nat) (s0 : ST) (v2 : Int32), w_X2_readInto_L11 v1 K Q n s0 v2 → G p l e rm_X2_readInto s m args below meth c X (xA X) 3 0 0 (MQ below (va_Qi Q (Bw X) (xA X)) args s 0 0 (xA X)) s0 11 [some (.ref (xa X 4)), some (.ref (xa X v1)), some (.int v2)] [] := by
  intro n
  induction n with
  | zero => intro s0 v2 h; exact h.elim
  | succ n ih =>
    intro s0 v2 h
    refine r_iload_n (pc := 11) E dX2_readInto_11 rfl rfl ?_
    refine r_sipush (pc := 12) (v := 300) E dX2_readInto_12 (by decide) ?_
    refine r_icmp_ge (pc := 15) (tgt := 69) E dX2_readInto_15 (by decide) (fun c1 => ?_) (fun c1 => ?_)
    · have h := h.1 c1
      exact r_forget (le_n (le_n (le_n le_0))) (hK _  h)
    · have h := h.2 c1
      refine r_aload_n (pc := 18) E dX2_readInto_18 rfl rfl ?_
      refine r_get (pc := 19) (j := 1) E ok_4 kc_2 rfl q_162 (svI rfl) dX2_readInto_19 ?_
      refine r_if_eq (pc := 22) (tgt := 69) E dX2_readInto_22 (by decide) (fun c2 => ?_) (fun c2 => ?_)
      · have h := h.1 c2
        exact r_forget (le_n (le_n (le_n le_0))) (hK _  h)
      · have h := h.2 c2
        refine r_aload_n (pc := 25) E dX2_readInto_25 rfl rfl ?_
        refine r_aload_n (pc := 26) E dX2_readInto_26 rfl rfl ?_
        refine afterI (pc := 27) E (fun H locs ls hP hS hl => runV (As := [.ref (xa X v1)]) (rest := []) E (c_X2_readLine X _ _ _ ho1 h) ok_4 kc_2.1 ci_X2_readLine q_524 rfl rfl rfl rfl dX2_readInto_27 hP hS hl) (fun r2 s3 h => ?_)
        refine r_if_ne (pc := 30) (tgt := 35) E dX2_readInto_30 (by decide) (fun c3 => ?_) (fun c3 => ?_)
        · have h := h.1 c3
          refine r_aload_n (pc := 35) E dX2_readInto_35 rfl rfl ?_
          refine r_get (pc := 36) (j := 1) E ok_4 kc_2 rfl q_162 (svI rfl) dX2_readInto_36 ?_
          refine r_iconst (pc := 39) (v := 3) E dX2_readInto_39 (by decide) ?_
          refine r_icmp_eq (pc := 40) (tgt := 49) E dX2_readInto_40 (by decide) (fun c4 => ?_) (fun c4 => ?_)
          · have h := h.1 c4
            refine r_aload_n (pc := 49) E dX2_readInto_49 rfl rfl ?_
            refine afterV (pc := 50) E (fun H locs ls hP hS hl => runV (As := []) (rest := []) E (c_X2_advance X _  _  h) ok_4 kc_2.1 ci_X2_advance q_495 rfl rfl rfl rfl dX2_readInto_50 hP hS hl) (fun s4 h => ?_)
            refine r_aload_n (pc := 53) E dX2_readInto_53 rfl rfl ?_
            refine r_dup (pc := 54) E dX2_readInto_54 rfl ?_
            refine r_get (pc := 55) (j := 0) E ho1 kc_3 rfl q_198 (svI (r0R ho1 rfl)) dX2_readInto_55 ?_
            refine r_iconst (pc := 58) (v := 1) E dX2_readInto_58 (by decide) ?_
            refine r_iadd (pc := 59) E dX2_readInto_59 ?_
            refine r_put (pc := 60) (j := 0) E ho1 kc_3 rfl q_198 (r0R ho1 rfl) rfl rfl dX2_readInto_60 (fun s5 es5 => ?_)
            have h := h s5 es5
            obtain ⟨x1, ex1⟩ : ∃ z : Int32, z = v2 + 1 := ⟨_, rfl⟩
            have h := h x1 ex1
            refine r_iinc (pc := 63) (v := 1) (lv' := [some (.ref (xa X 4)), some (.ref (xa X v1)), some (.int x1)]) E dX2_readInto_63 rfl (by decide) rfl rfl (by rw [ex1]; rfl) ?_
            refine r_goto (pc := 66) (tgt := 11) E dX2_readInto_66 (by decide) ?_
            exact r_forget (le_s (le_s (le_s le_0))) (ih _ _ h)
          · have h := h.2 c4
            refine r_aload_n (pc := 43) E dX2_readInto_43 rfl rfl ?_
            refine r_iconst (pc := 44) (v := 1) E dX2_readInto_44 (by decide) ?_
            refine afterI (pc := 45) E (fun H locs ls hP hS hl => runV (As := [.int 1]) (rest := []) E (c_X2_refuse X _ _ _  h) ok_4 kc_2.1 ci_X2_refuse q_588 rfl rfl rfl rfl dX2_readInto_45 hP hS hl) (fun r4 s6 h => ?_)
            exact r_zret (pc := 48) E hr dX2_readInto_48 h.1 h.2
        · have h := h.2 c3
          refine r_iconst (pc := 33) (v := 0) E dX2_readInto_33 (by decide) ?_
          exact r_zret (pc := 34) E hr dX2_readInto_34 rfl h

def w_X2_readInto (s0 : ST) (a1 : Nat) (Q : Int32 → ST → Prop) : Prop := ∀ s1 : ST, s1 = up s0 4 3 0 → (w_X2_advance s1 (fun s2 => ∃ n1 : Nat, w_X2_readInto_L11 a1 (fun (s7 : ST) => Q 1 s7) Q n1 s2 0))
set_option maxRecDepth 100000 in
set_option maxHeartbeats 4000000 in
theorem c_X2_readInto {l : Launch} (X : XT) (s0 : ST) (a1 : Nat) (Q : Int32 → ST → Prop) (ha1 : okc 3 a1) (h : w_X2_readInto s0 a1 Q) : MetI l yX2_readInto (wS yX2_readInto cX2_readInto 3 (some .boolean)) rm_X2_readInto X s0 [.ref (xa X 4), .ref (xa X a1)] Q := by
  refine metG (own := RX2) (k := 1) (lv0 := [some (.ref (xa X 4)), some (.ref (xa X a1)), none]) (by decide) rfl rfl rfl ?_
  intro p e s m args below meth c E hr
  refine r_aload_n (pc := 0) E dX2_readInto_0 rfl rfl ?_
  refine r_iconst (pc := 1) (v := 0) E dX2_readInto_1 (by decide) ?_
  refine r_put (pc := 2) (j := 3) E ok_4 kc_2 rfl q_164 rfl rfl rfl dX2_readInto_2 (fun s1 es1 => ?_)
  have h := h s1 es1
  refine r_aload_n (pc := 5) E dX2_readInto_5 rfl rfl ?_
  refine afterV (pc := 6) E (fun H locs ls hP hS hl => runV (As := []) (rest := []) E (c_X2_advance X _  _  h) ok_4 kc_2.1 ci_X2_advance q_495 rfl rfl rfl rfl dX2_readInto_6 hP hS hl) (fun s2 h => ?_)
  refine r_iconst (pc := 9) (v := 0) E dX2_readInto_9 (by decide) ?_
  refine r_istore_n (pc := 10) (lv' := [some (.ref (xa X 4)), some (.ref (xa X a1)), some (.int 0)]) E dX2_readInto_10 rfl rfl rfl rfl ?_
  obtain ⟨n1, h⟩ := h
  refine r_forget (le_s (le_s (le_s le_0))) (t_X2_readInto_L11 E hr ha1 ?_ n1 _ _ h)
  intro s7 h
  refine r_iconst (pc := 69) (v := 1) E dX2_readInto_69 (by decide) ?_
  exact r_zret (pc := 70) E hr dX2_readInto_70 rfl h

/-! ChairFront.rules -/
def rm_X8_rules : Room := { frames := 10, cells := 0, slots := 0, locals := 248 }
theorem ci_X8_rules : CI yX8_rules RX8 cX8_rules 3 (some .int) 0 := ⟨q_484, q_485, q_55, q_486, by decide +kernel⟩
def w_X8_rules (s0 : ST) (Q : Int32 → ST → Prop) : Prop := (s0 0 12).toNatClampNeg < 2 ∧ (∀ k1 : Nat, k1 = 7 + (s0 0 12).toNatClampNeg → (w_X3_clear s0 k1 (fun s1 => (s1 0 12).toNatClampNeg < 2 ∧ (∀ k2 : Nat, k2 = 7 + (s1 0 12).toNatClampNeg → (w_X2_readInto s1 k2 (fun r2 s2 => ∀ s3 : ST, s3 = up s2 5 1 0 → (((¬ r2 = 0 → ((s3 0 11).toNatClampNeg < 2 ∧ (∀ k3 : Nat, k3 = 7 + (s3 0 11).toNatClampNeg → ((s3 0 12).toNatClampNeg < 2 ∧ (∀ k4 : Nat, k4 = 7 + (s3 0 12).toNatClampNeg → (∀ s4 : ST, s4 = up s3 0 11 (nI (k4 - 7)) → (∀ s5 : ST, s5 = up s4 0 12 (nI (k3 - 7)) → ((s5 0 11).toNatClampNeg < 2 ∧ (∀ k5 : Nat, k5 = 7 + (s5 0 11).toNatClampNeg → (Q (s5 k5 0) s5)))))))))) ∧ (r2 = 0 → (∀ s6 : ST, s6 = up s3 0 13 (s3 4 7) → (Q ((-1000100) - (s6 4 8)) s6)))))))))))
set_option maxRecDepth 100000 in
set_option maxHeartbeats 4000000 in
theorem c_X8_rules {l : Launch} (X : XT) (s0 : ST) (Q : Int32 → ST → Prop) (h : w_X8_rules s0 Q) : MetI l yX8_rules (wS yX8_rules cX8_rules 3 (some .int)) rm_X8_rules X s0 [.ref (xa X 0)] Q := by
  refine metG (own := RX8) (k := 2) (lv0 := [some (.ref (xa X 0)), none, none]) (by decide) rfl rfl rfl ?_
  intro p e s m args below meth c E hr
  refine r_aload_n (pc := 0) E dX8_rules_0 rfl rfl ?_
  refine r_getR (pc := 1) (j := 12) E (by decide) kc_8 q_315 h.1 dX8_rules_1 (fun k1 ek1 ok1 => ?_)
  have h := h.2 k1 ek1
  refine afterV (pc := 4) E (fun H locs ls hP hS hl => runV (As := []) (rest := []) E (c_X3_clear X _ _ _ ok1 h) ok1 kc_3.1 ci_X3_clear q_487 rfl rfl rfl rfl dX8_rules_4 hP hS hl) (fun s1 h => ?_)
  refine r_aload_n (pc := 7) E dX8_rules_7 rfl rfl ?_
  refine r_get (pc := 8) (j := 10) (v := .ref (xa X 4)) E ok_0 kc_8 rfl q_313 rfl dX8_rules_8 ?_
  refine r_aload_n (pc := 11) E dX8_rules_11 rfl rfl ?_
  refine r_getR (pc := 12) (j := 12) E (by decide) kc_8 q_315 h.1 dX8_rules_12 (fun k2 ek2 ok2 => ?_)
  have h := h.2 k2 ek2
  refine afterI (pc := 15) E (fun H locs ls hP hS hl => runV (As := [.ref (xa X k2)]) (rest := []) E (c_X2_readInto X _ _ _ ok2 h) ok_4 kc_2.1 ci_X2_readInto q_491 rfl rfl rfl rfl dX8_rules_15 hP hS hl) (fun r2 s2 h => ?_)
  refine r_istore_n (pc := 18) (lv' := [some (.ref (xa X 0)), some (.int r2), none]) E dX8_rules_18 rfl rfl rfl rfl ?_
  refine r_aload_n (pc := 19) E dX8_rules_19 rfl rfl ?_
  refine r_get (pc := 20) (j := 10) (v := .ref (xa X 4)) E ok_0 kc_8 rfl q_313 rfl dX8_rules_20 ?_
  refine r_get (pc := 23) (j := 0) (v := .ref (xa X 5)) E ok_4 kc_2 rfl q_161 rfl dX8_rules_23 ?_
  refine r_iconst (pc := 26) (v := 0) E dX8_rules_26 (by decide) ?_
  refine r_put (pc := 27) (j := 1) E ok_5 kc_5 rfl q_152 rfl rfl rfl dX8_rules_27 (fun s3 es3 => ?_)
  have h := h s3 es3
  refine r_iload_n (pc := 30) E dX8_rules_30 rfl rfl ?_
  refine r_if_ne (pc := 31) (tgt := 56) E dX8_rules_31 (by decide) (fun c1 => ?_) (fun c1 => ?_)
  · have h := h.1 c1
    refine r_aload_n (pc := 56) E dX8_rules_56 rfl rfl ?_
    refine r_getR (pc := 57) (j := 11) E (by decide) kc_8 q_314 h.1 dX8_rules_57 (fun k3 ek3 ok3 => ?_)
    have h := h.2 k3 ek3
    refine r_astore_n (pc := 60) (lv' := [some (.ref (xa X 0)), some (.int r2), some (.ref (xa X k3))]) E dX8_rules_60 rfl rfl rfl rfl ?_
    refine r_aload_n (pc := 61) E dX8_rules_61 rfl rfl ?_
    refine r_aload_n (pc := 62) E dX8_rules_62 rfl rfl ?_
    refine r_getR (pc := 63) (j := 12) E (by decide) kc_8 q_315 h.1 dX8_rules_63 (fun k4 ek4 ok4 => ?_)
    have h := h.2 k4 ek4
    refine r_putR (pc := 66) (j := 11) E (by decide) kc_8 q_314 ok4 dX8_rules_66 (fun s4 es4 => ?_)
    have h := h s4 es4
    refine r_aload_n (pc := 69) E dX8_rules_69 rfl rfl ?_
    refine r_aload_n (pc := 70) E dX8_rules_70 rfl rfl ?_
    refine r_putR (pc := 71) (j := 12) E (by decide) kc_8 q_315 ok3 dX8_rules_71 (fun s5 es5 => ?_)
    have h := h s5 es5
    refine r_aload_n (pc := 74) E dX8_rules_74 rfl rfl ?_
    refine r_getR (pc := 75) (j := 11) E (by decide) kc_8 q_314 h.1 dX8_rules_75 (fun k5 ek5 ok5 => ?_)
    have h := h.2 k5 ek5
    refine r_get (pc := 78) (j := 0) E ok5 kc_3 rfl q_199 (svI (r0R ok5 rfl)) dX8_rules_78 ?_
    exact r_iret (pc := 81) E hr dX8_rules_81 h
  · have h := h.2 c1
    refine r_aload_n (pc := 34) E dX8_rules_34 rfl rfl ?_
    refine r_aload_n (pc := 35) E dX8_rules_35 rfl rfl ?_
    refine r_get (pc := 36) (j := 10) (v := .ref (xa X 4)) E ok_0 kc_8 rfl q_313 rfl dX8_rules_36 ?_
    refine r_get (pc := 39) (j := 7) E ok_4 kc_2 rfl q_169 (svI rfl) dX8_rules_39 ?_
    refine r_put (pc := 42) (j := 13) E ok_0 kc_8 rfl q_316 rfl rfl rfl dX8_rules_42 (fun s6 es6 => ?_)
    have h := h s6 es6
    refine r_ldc (pc := 45) (v := (-1000100)) E q_625 dX8_rules_45 ?_
    refine r_aload_n (pc := 47) E dX8_rules_47 rfl rfl ?_
    refine r_get (pc := 48) (j := 10) (v := .ref (xa X 4)) E ok_0 kc_8 rfl q_313 rfl dX8_rules_48 ?_
    refine r_get (pc := 51) (j := 8) E ok_4 kc_2 rfl q_171 (svI rfl) dX8_rules_51 ?_
    refine r_isub (pc := 54) E dX8_rules_54 ?_
    exact r_iret (pc := 55) E hr dX8_rules_55 h

