/-! the words of a text: length, charAt -/
def rm_J3 : Room := { frames := 0, cells := 0, slots := 0, locals := 0 }
def rm_J0c : Room := { frames := 1, cells := 0, slots := 0, locals := 22 }
def rm_J1 : Room := { frames := 2, cells := 0, slots := 0, locals := 43 }
def rm_J0at : Room := { frames := 3, cells := 0, slots := 0, locals := 64 }
def rm_J0len : Room := { frames := 1, cells := 0, slots := 0, locals := 20 }
theorem ci_J0_length_8abf5 : CI yJ0_length_8abf5 RJ0 cJ0_length_8abf5 1 (some .int) 0 := ⟨q_534, q_535, q_66, q_536, by decide +kernel⟩
theorem ci_J0_coder_7d493 : CI yJ0_coder_7d493 RJ0 cJ0_coder_7d493 1 (some .byte) 0 := ⟨q_538, q_539, q_66, q_540, by decide +kernel⟩
theorem ci_J0_charAt_5068e : CI yJ0_charAt_5068e RJ0 cJ0_charAt_5068e 2 (some .char) 1 := ⟨q_544, q_545, q_66, q_546, by decide +kernel⟩
theorem ci_J0_isLatin1_aae02 : CI yJ0_isLatin1_aae02 RJ0 cJ0_isLatin1_aae02 1 (some .boolean) 0 := ⟨q_548, q_549, q_66, q_550, by decide +kernel⟩
theorem cs_J0_checkIndex_df160 : CS yJ0_checkIndex_df160 cJ0_checkIndex_df160 2 none 2 := ⟨q_555, q_66, q_556, by decide +kernel⟩
theorem cs_J1_charAt_3b067 : CS yJ1_charAt_3b067 cJ1_charAt_3b067 2 (some .char) 2 := ⟨q_552, q_67, q_553, by decide +kernel⟩
theorem cs_J3_checkIndex_8e157 : CS yJ3_checkIndex_8e157 cJ3_checkIndex_8e157 3 (some .int) 3 := ⟨q_560, q_68, q_561, by decide +kernel⟩
def chS (i j : Nat) : Int32 := (bytS.getD i []).getD j 0
section TX
variable {p : Program} {l : Launch} {e : Env} {R : Room} {s : State} {m : MethodId} {args : Array Value} {below : List Frame} {meth : Method} {c : Code} {X : XT} {A : Nat → Prop} {nL cells slots : Nat} {Qf : State → Prop} {cc : ByteArray} {own : String} {σ : ST} {pc : Nat} {lv lv' : List (Option Value)} {st : List Value}
theorem r_nret {ty : FieldType} {Q : Int32 → ST → Prop} {x : Int32} (E : Ev p R s m args meth c X (xA X) nL 0 0 cc own) (hr : meth.sig.returnType = some ty) (hd : decode cc pc = .ok (.ireturn, 1)) (hn : narrow ty (.int x) = .int x) (hq : Q x σ) : G p l e R s m args below meth c X (xA X) nL 0 0 (MQ below (va_Qi Q (Bw X) (xA X)) args s 0 0 (xA X)) σ pc lv [.int x] :=
  fun H locs ls hP hS hl => W.zret (v := x) E.x E.b hr hn (fun t ht hW => ⟨⟨x, σ, rfl, hq, by show va_P _ _ _ t.heap; rw [ht]; exact hP⟩, hS.F ht⟩) hS.2.2 hd E.lk
theorem r_getsC (E : Ev p R s m args meth c X A nL cells slots cc own) {index : Nat} (hk : Cond.fieldLink own index "java/lang/String" "COMPACT_STRINGS" "Z" ∈ WS) (hd : decode cc pc = .ok (.getstatic index, 3)) (kk : G p l e R s m args below meth c X A nL cells slots Qf σ (pc + 3) lv (.int 1 :: st)) : G p l e R s m args below meth c X A nL cells slots Qf σ pc lv st :=
  fun H locs ls hP hS hl => va_gets E.x E.b E.sb.2.1 hS E.ow (E.ts _ hk) (fun _ h => h) hd (kk H locs ls hP hS hl)
theorem r_getsF (E : Ev p R s m args meth c X A nL cells slots cc own) {index : Nat} (hk : Cond.fieldLink own index "jdk/internal/util/Preconditions" "SIOOBE_FORMATTER" "Ljava/util/function/BiFunction;" ∈ WS) (hd : decode cc pc = .ok (.getstatic index, 3)) (kk : ∀ v : Value, (v = .null ∨ ∃ t, v = .ref t) → G p l e R s m args below meth c X A nL cells slots Qf σ (pc + 3) lv (v :: st)) : G p l e R s m args below meth c X A nL cells slots Qf σ pc lv st := by
  intro H locs ls hP hS hl
  rcases E.sb.2.2 with h | ⟨t, h⟩
  · exact va_gets E.x E.b h hS E.ow (E.ts _ hk) (fun _ h => h) hd (kk _ (Or.inl rfl) H locs ls hP hS hl)
  · exact va_gets E.x E.b h hS E.ow (E.ts _ hk) (fun _ h => h) hd (kk _ (Or.inr ⟨t, rfl⟩) H locs ls hP hS hl)
theorem r_sval (E : Ev p R s m args meth c X A nL cells slots cc own) {index i : Nat} (hi : i < 7) (hk : Cond.fieldLink own index "java/lang/String" "value" "[B" ∈ WS) (hd : decode cc pc = .ok (.getfield index, 3)) (kk : G p l e R s m args below meth c X A nL cells slots Qf σ (pc + 3) lv (.ref (xv X i) :: st)) : G p l e R s m args below meth c X A nL cells slots Qf σ pc lv (.ref (xk X i) :: st) :=
  fun H locs ls hP hS hl => vk_getf E.x E.b (E.sb.1.1 i hi).2.2.1 hS E.ow (E.ts _ hk) (fun _ h => h) hd (kk H locs ls hP hS hl)
theorem r_scod (E : Ev p R s m args meth c X A nL cells slots cc own) {index i : Nat} (hi : i < 7) (hk : Cond.fieldLink own index "java/lang/String" "coder" "B" ∈ WS) (hd : decode cc pc = .ok (.getfield index, 3)) (kk : G p l e R s m args below meth c X A nL cells slots Qf σ (pc + 3) lv (.int 0 :: st)) : G p l e R s m args below meth c X A nL cells slots Qf σ pc lv (.ref (xk X i) :: st) :=
  fun H locs ls hP hS hl => vk_getf E.x E.b (E.sb.1.1 i hi).2.1 hS E.ow (E.ts _ hk) (fun _ h => h) hd (kk H locs ls hP hS hl)
theorem r_vlen (E : Ev p R s m args meth c X A nL cells slots cc own) {i : Nat} (hi : i < 7) (hd : decode cc pc = .ok (.arraylength, 1)) (kk : G p l e R s m args below meth c X A nL cells slots Qf σ (pc + 1) lv (.int (nI (lenS.getD i 0)) :: st)) : G p l e R s m args below meth c X A nL cells slots Qf σ pc lv (.ref (xv X i) :: st) :=
  fun H locs ls hP hS hl => va_tlen E.x E.b (E.sb.1.1 i hi).2.2.2 hS rfl hd (kk H locs ls hP hS hl)
theorem r_vald (E : Ev p R s m args meth c X A nL cells slots cc own) {i : Nat} {j : Int32} (hi : i < 7) (hj : vp_in j (lenS.getD i 0)) (hd : decode cc pc = .ok (.baload, 1)) (kk : G p l e R s m args below meth c X A nL cells slots Qf σ (pc + 1) lv (.int (chS i j.toNatClampNeg) :: st)) : G p l e R s m args below meth c X A nL cells slots Qf σ pc lv (.int j :: .ref (xv X i) :: st) :=
  fun H locs ls hP hS hl => va_tb E.x E.b (E.sb.1.1 i hi).2.2.2 hS hj rfl hd (kk H locs ls hP hS hl)
theorem r_i2c (E : Ev p R s m args meth c X A nL cells slots cc own) {x v : Int32} (hd : decode cc pc = .ok (.i2c, 1)) (hv : (x.toUInt32 % 65536).toInt32 = v) (k : G p l e R s m args below meth c X A nL cells slots Qf σ (pc + 1) lv (.int v :: st)) : G p l e R s m args below meth c X A nL cells slots Qf σ pc lv (.int x :: st) :=
  fun H locs ls hP hS hl => lv_i2c E.x E.b hd hv (k H locs ls hP hS hl)
theorem runT (E : Ev p R s m args meth c X A nL cells slots cc own) {y : MethodName} {bytes : ByteArray} {maxL n index i : Nat} {ret : Option FieldType} {rm : Room} {As rest : List Value} {Qc : Array Value → State → Outcome → State → Prop}
    (hM : Met l y (wS y bytes maxL ret) rm (va_Pc (.ref (xk X i) :: As) (Pw X σ)) Qc 0 0 (xA X)) (hi : i < 7) (hci : CI y "java/lang/String" bytes maxL ret n) (hml : Cond.methodLink own index y ∈ WS) (hr : rOk rm R maxL = true) (hn : As.length = n) (hst : st = As.reverse ++ .ref (xk X i) :: rest) (h8 : cat8 rest = true) (hd : decode cc pc = .ok (.invokevirtual index, 3))
    {H : Heap} {locs : List Loc} {ls : Array Slot} (hP : va_P (xD X) vwCl (wl X σ) H) (hS : va_S A s.heap H locs) (hl : Lv ls nL lv) :
    va_Run p l e R s m args below meth c H locs cells slots 0 0 (F0 m pc ls st) rest (Qc (.ref (xk X i) :: As).toArray) (xA X) := by
  obtain ⟨c1, c2, c3, c4, c5⟩ := hci
  obtain ⟨g1, g2, g3⟩ := rOk_spec hr
  have hG : GoodIn WS (wsV own index "java/lang/String" y (wS y bytes maxL ret)) := by
    intro w hw
    unfold wsV at hw
    rcases List.mem_append.mp hw with hw | hw
    · rcases List.mem_cons.mp hw with rfl | hw
      · exact ⟨hml, WS_good _ hml⟩
      rcases List.mem_cons.mp hw with rfl | hw
      · exact ⟨c1, WS_good _ c1⟩
      rcases List.mem_cons.mp hw with rfl | hw
      · exact ⟨c2, WS_good _ c2⟩
      rcases List.mem_cons.mp hw with rfl | hw
      · exact ⟨c3, WS_good _ c3⟩
      · cases hw
    · exact wS_good (fun w h => h) c4 w hw
  exact va_runV (As := As) (rest := rest) ⟨E.x, E.b, E.ml, E.ow, E.ts⟩ hM (cwV n E.ts hG rfl g2 g3 c5 g1) ⟨pw_blind, vk_recv E.sb.1 hi hS, fun U hU hW => ⟨rfl, E.pw hP hS U hU hW⟩⟩ rfl hn hl.1 hst (lv_room (Nat.le_of_ble_eq_true h8)) hd ⟨E.rc, E.rs⟩
end TX
theorem in_lt2 {j : Int32} {N : Nat} (hN : N < 2 ^ 31) (h : vp_in j N) : j < nI N := by
  obtain ⟨k, hk, rfl⟩ := vp_in_of h hN
  exact nI_lt hk hN
set_option maxRecDepth 100000 in
theorem c_J3_checkIndex_8e157 {l : Launch} (X : XT) (s0 : ST) (a0 : Int32) (N : Nat) (v : Value) (hv : v = .null ∨ ∃ t, v = .ref t) (hN : N < 2 ^ 31) (hin : vp_in a0 N) (Q : Int32 → ST → Prop) (hQ : Q a0 s0) : MetI l yJ3_checkIndex_8e157 (wS yJ3_checkIndex_8e157 cJ3_checkIndex_8e157 3 (some .int)) rm_J3 X s0 [.int a0, .int (nI N), v] Q := by
  rcases hv with rfl | ⟨t, rfl⟩
  · refine metG (own := RJ3) (k := 0) (lv0 := [some (.int a0), some (.int (nI N)), some (.null)]) (by decide) rfl rfl rfl ?_
    intro p e s m args below meth c E hr
    refine r_iload_n (pc := 0) E dJ3_checkIndex_8e157_0 rfl rfl ?_
    refine r_if_lt (pc := 1) (tgt := 9) E dJ3_checkIndex_8e157_1 (by decide) (fun c1 => absurd (Or.inl c1) hin) (fun c1 => ?_)
    refine r_iload_n (pc := 4) E dJ3_checkIndex_8e157_4 rfl rfl ?_
    refine r_iload_n (pc := 5) E dJ3_checkIndex_8e157_5 rfl rfl ?_
    refine r_icmp_lt (pc := 6) (tgt := 16) E dJ3_checkIndex_8e157_6 (by decide) (fun c2 => ?_) (fun c2 => absurd (in_lt2 hN hin) c2)
    refine r_iload_n (pc := 16) E dJ3_checkIndex_8e157_16 rfl rfl ?_
    exact r_iret (pc := 17) E hr dJ3_checkIndex_8e157_17 hQ
  · refine metG (own := RJ3) (k := 0) (lv0 := [some (.int a0), some (.int (nI N)), some (.ref t)]) (by decide) rfl rfl rfl ?_
    intro p e s m args below meth c E hr
    refine r_iload_n (pc := 0) E dJ3_checkIndex_8e157_0 rfl rfl ?_
    refine r_if_lt (pc := 1) (tgt := 9) E dJ3_checkIndex_8e157_1 (by decide) (fun c1 => absurd (Or.inl c1) hin) (fun c1 => ?_)
    refine r_iload_n (pc := 4) E dJ3_checkIndex_8e157_4 rfl rfl ?_
    refine r_iload_n (pc := 5) E dJ3_checkIndex_8e157_5 rfl rfl ?_
    refine r_icmp_lt (pc := 6) (tgt := 16) E dJ3_checkIndex_8e157_6 (by decide) (fun c2 => ?_) (fun c2 => absurd (in_lt2 hN hin) c2)
    refine r_iload_n (pc := 16) E dJ3_checkIndex_8e157_16 rfl rfl ?_
    exact r_iret (pc := 17) E hr dJ3_checkIndex_8e157_17 hQ
set_option maxRecDepth 100000 in
theorem c_J0_checkIndex_df160 {l : Launch} (X : XT) (s0 : ST) (a0 : Int32) (N : Nat) (hN : N < 2 ^ 31) (hin : vp_in a0 N) (Q : ST → Prop) (hQ : Q s0) : MetV l yJ0_checkIndex_df160 (wS yJ0_checkIndex_df160 cJ0_checkIndex_df160 2 none) rm_J0c X s0 [.int a0, .int (nI N)] Q := by
  refine metG (own := RJ0) (k := 0) (lv0 := [some (.int a0), some (.int (nI N))]) (by decide) rfl rfl rfl ?_
  intro p e s m args below meth c E hr
  refine r_iload_n (pc := 0) E dJ0_checkIndex_df160_0 rfl rfl ?_
  refine r_iload_n (pc := 1) E dJ0_checkIndex_df160_1 rfl rfl ?_
  refine r_getsF (pc := 2) E q_557 dJ0_checkIndex_df160_2 (fun v hv => ?_)
  refine afterI (pc := 5) (Q1 := fun r t => r = a0 ∧ t = s0) E (fun H locs ls hP hS hl => runS (As := [.int a0, .int (nI N), v]) (rest := []) E (c_J3_checkIndex_8e157 X _ _ _ v hv hN hin _ ⟨rfl, rfl⟩) cs_J3_checkIndex_8e157 q_559 rfl rfl rfl rfl dJ0_checkIndex_df160_5 hP hS hl) (fun r1 s1 h => ?_)
  obtain ⟨rfl, rfl⟩ := h
  refine r_pop (pc := 8) E dJ0_checkIndex_df160_8 rfl ?_
  exact r_vret (pc := 9) E hr dJ0_checkIndex_df160_9 hQ
theorem len_S : ∀ i, i < 7 → lenS.getD i 0 < 2 ^ 31 := by decide +kernel
theorem ch_S : ∀ i, i < 7 → ∀ j, j < lenS.getD i 0 → (chS i j &&& 255 = chS i j) := by decide +kernel
set_option maxRecDepth 100000 in
theorem c_J1_charAt_3b067 {l : Launch} (X : XT) (s0 : ST) (i : Nat) (a1 : Int32) (hi : i < 7) (hin : vp_in a1 (lenS.getD i 0)) (Q : Int32 → ST → Prop) (hQ : Q (chS i a1.toNatClampNeg) s0) : MetI l yJ1_charAt_3b067 (wS yJ1_charAt_3b067 cJ1_charAt_3b067 2 (some .char)) rm_J1 X s0 [.ref (xv X i), .int a1] Q := by
  refine metG (own := RJ1) (k := 0) (lv0 := [some (.ref (xv X i)), some (.int a1)]) (by decide) rfl rfl rfl ?_
  intro p e s m args below meth c E hr
  refine r_iload_n (pc := 0) E dJ1_charAt_3b067_0 rfl rfl ?_
  refine r_aload_n (pc := 1) E dJ1_charAt_3b067_1 rfl rfl ?_
  refine r_vlen (pc := 2) E hi dJ1_charAt_3b067_2 ?_
  refine afterV (pc := 3) (Q1 := fun t => t = s0) E (fun H locs ls hP hS hl => runS (As := [.int a1, .int (nI (lenS.getD i 0))]) (rest := []) E (c_J0_checkIndex_df160 X _ _ _ (len_S i hi) hin (fun t => t = s0) rfl) cs_J0_checkIndex_df160 q_554 rfl rfl rfl rfl dJ1_charAt_3b067_3 hP hS hl) (fun s1 h => ?_)
  subst h
  refine r_aload_n (pc := 6) E dJ1_charAt_3b067_6 rfl rfl ?_
  refine r_iload_n (pc := 7) E dJ1_charAt_3b067_7 rfl rfl ?_
  refine r_vald (pc := 8) E hi hin dJ1_charAt_3b067_8 ?_
  refine r_sipush (pc := 9) (v := 255) E dJ1_charAt_3b067_9 (by decide) ?_
  refine r_iand (pc := 12) E dJ1_charAt_3b067_12 ?_
  refine r_i2c (pc := 13) (v := chS i a1.toNatClampNeg) E dJ1_charAt_3b067_13 (by rw [sc_c2]; exact ch_S i hi _ (in_lt hin)) ?_
  exact r_nret (pc := 14) E hr dJ1_charAt_3b067_14 (by rw [← ch_S i hi _ (in_lt hin)]; exact sc_nar _) hQ
set_option maxRecDepth 100000 in
theorem c_J0_isLatin1_aae02 {l : Launch} (X : XT) (s0 : ST) (i : Nat) (hi : i < 7) (Q : Int32 → ST → Prop) (hQ : Q 1 s0) : MetI l yJ0_isLatin1_aae02 (wS yJ0_isLatin1_aae02 cJ0_isLatin1_aae02 1 (some .boolean)) rm_J3 X s0 [.ref (xk X i)] Q := by
  refine metG (own := RJ0) (k := 0) (lv0 := [some (.ref (xk X i))]) (by decide) rfl rfl rfl ?_
  intro p e s m args below meth c E hr
  refine r_getsC (pc := 0) E q_541 dJ0_isLatin1_aae02_0 ?_
  refine r_if_eq (pc := 3) (tgt := 17) E dJ0_isLatin1_aae02_3 (by decide) (fun c1 => absurd c1 (by decide)) (fun _ => ?_)
  refine r_aload_n (pc := 6) E dJ0_isLatin1_aae02_6 rfl rfl ?_
  refine r_scod (pc := 7) E hi q_1131 dJ0_isLatin1_aae02_7 ?_
  refine r_if_ne (pc := 10) (tgt := 17) E dJ0_isLatin1_aae02_10 (by decide) (fun c1 => absurd rfl c1) (fun _ => ?_)
  refine r_iconst (pc := 13) (v := 1) E dJ0_isLatin1_aae02_13 (by decide) ?_
  refine r_goto (pc := 14) (tgt := 18) E dJ0_isLatin1_aae02_14 (by decide) ?_
  exact r_zret (pc := 18) E hr dJ0_isLatin1_aae02_18 rfl hQ
set_option maxRecDepth 100000 in
theorem c_J0_coder_7d493 {l : Launch} (X : XT) (s0 : ST) (i : Nat) (hi : i < 7) (Q : Int32 → ST → Prop) (hQ : Q 0 s0) : MetI l yJ0_coder_7d493 (wS yJ0_coder_7d493 cJ0_coder_7d493 1 (some .byte)) rm_J3 X s0 [.ref (xk X i)] Q := by
  refine metG (own := RJ0) (k := 0) (lv0 := [some (.ref (xk X i))]) (by decide) rfl rfl rfl ?_
  intro p e s m args below meth c E hr
  refine r_getsC (pc := 0) E q_541 dJ0_coder_7d493_0 ?_
  refine r_if_eq (pc := 3) (tgt := 13) E dJ0_coder_7d493_3 (by decide) (fun c1 => absurd c1 (by decide)) (fun _ => ?_)
  refine r_aload_n (pc := 6) E dJ0_coder_7d493_6 rfl rfl ?_
  refine r_scod (pc := 7) E hi q_1131 dJ0_coder_7d493_7 ?_
  refine r_goto (pc := 10) (tgt := 14) E dJ0_coder_7d493_10 (by decide) ?_
  exact r_nret (pc := 14) E hr dJ0_coder_7d493_14 rfl hQ
set_option maxRecDepth 100000 in
theorem c_J0_length_8abf5 {l : Launch} (X : XT) (s0 : ST) (i : Nat) (hi : i < 7) (Q : Int32 → ST → Prop) (hQ : Q (nI (lenS.getD i 0)) s0) : MetI l yJ0_length_8abf5 (wS yJ0_length_8abf5 cJ0_length_8abf5 1 (some .int)) rm_J0len X s0 [.ref (xk X i)] Q := by
  refine metG (own := RJ0) (k := 0) (lv0 := [some (.ref (xk X i))]) (by decide) rfl rfl rfl ?_
  intro p e s m args below meth c E hr
  refine r_aload_n (pc := 0) E dJ0_length_8abf5_0 rfl rfl ?_
  refine r_sval (pc := 1) E hi q_1130 dJ0_length_8abf5_1 ?_
  refine r_vlen (pc := 4) E hi dJ0_length_8abf5_4 ?_
  refine r_aload_n (pc := 5) E dJ0_length_8abf5_5 rfl rfl ?_
  refine afterI (pc := 6) (Q1 := fun r t => r = 0 ∧ t = s0) E (fun H locs ls hP hS hl => runT (As := []) (rest := [.int (nI (lenS.getD i 0))]) E (c_J0_coder_7d493 X _ _ hi _ ⟨rfl, rfl⟩) hi ci_J0_coder_7d493 q_537 rfl rfl rfl rfl dJ0_length_8abf5_6 hP hS hl) (fun r1 s1 h => ?_)
  obtain ⟨rfl, rfl⟩ := h
  refine r_ishr (pc := 9) E dJ0_length_8abf5_9 ?_
  rw [sc_shr0 (len_S i hi)]
  exact r_iret (pc := 10) E hr dJ0_length_8abf5_10 hQ
set_option maxRecDepth 100000 in
theorem c_J0_charAt_5068e {l : Launch} (X : XT) (s0 : ST) (i : Nat) (a1 : Int32) (hi : i < 7) (hin : vp_in a1 (lenS.getD i 0)) (Q : Int32 → ST → Prop) (hQ : Q (chS i a1.toNatClampNeg) s0) : MetI l yJ0_charAt_5068e (wS yJ0_charAt_5068e cJ0_charAt_5068e 2 (some .char)) rm_J0at X s0 [.ref (xk X i), .int a1] Q := by
  refine metG (own := RJ0) (k := 0) (lv0 := [some (.ref (xk X i)), some (.int a1)]) (by decide) rfl rfl rfl ?_
  intro p e s m args below meth c E hr
  refine r_aload_n (pc := 0) E dJ0_charAt_5068e_0 rfl rfl ?_
  refine afterI (pc := 1) (Q1 := fun r t => r = 1 ∧ t = s0) E (fun H locs ls hP hS hl => runT (As := []) (rest := []) E (c_J0_isLatin1_aae02 X _ _ hi _ ⟨rfl, rfl⟩) hi ci_J0_isLatin1_aae02 q_547 rfl rfl rfl rfl dJ0_charAt_5068e_1 hP hS hl) (fun r1 s1 h => ?_)
  obtain ⟨rfl, rfl⟩ := h
  refine r_if_eq (pc := 4) (tgt := 16) E dJ0_charAt_5068e_4 (by decide) (fun c1 => absurd c1 (by decide)) (fun _ => ?_)
  refine r_aload_n (pc := 7) E dJ0_charAt_5068e_7 rfl rfl ?_
  refine r_sval (pc := 8) E hi q_1130 dJ0_charAt_5068e_8 ?_
  refine r_iload_n (pc := 11) E dJ0_charAt_5068e_11 rfl rfl ?_
  refine afterI (pc := 12) (Q1 := fun r t => r = chS i a1.toNatClampNeg ∧ t = s1) E (fun H locs ls hP hS hl => runS (As := [.ref (xv X i), .int a1]) (rest := []) E (c_J1_charAt_3b067 X _ _ _ hi hin _ ⟨rfl, rfl⟩) cs_J1_charAt_3b067 q_551 rfl rfl rfl rfl dJ0_charAt_5068e_12 hP hS hl) (fun r1 s2 h => ?_)
  obtain ⟨rfl, rfl⟩ := h
  exact r_nret (pc := 15) E hr dJ0_charAt_5068e_15 (by rw [← ch_S i hi _ (in_lt hin)]; exact sc_nar _) hQ
